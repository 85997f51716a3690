/-! PURE: the class's least time, from its beginning -/
/-- what the class knows of the house -/
def CD0 (G : NW) (L : Nat → List Nat) (st : St) : Prop := gI st 139 13 = nI G.n ∧ (∀ w, w < G.n → gI st 140 w = nI (G.fr w) ∧ gI st 141 w = nI (G.to w) ∧ gI st 142 w = nI (G.wd w) ∧ gI st 143 w = nI (G.tm w)) ∧ ∀ v, v < 12 → gI st 151 v = nI (L v).length ∧ ∀ j x : Nat, (L v)[j]? = some x → gI st 152 (40 * v + j) = nI x
theorem FI_0 {G : NW} {T : Nat} {c : Nat → Nat} : FI G T c c (iN fun _ => 0) := by
  refine ⟨fun _ _ => Int.le_refl _, fun a _ _ => Int.natCast_nonneg _, fun _ _ _ => rfl, fun s _ => ?_⟩
  have : bl G (iN fun _ => 0) s = 0 := by
    unfold bl bal
    refine Eq.trans (si_c fun a _ => ?_) (si_0 1632)
    simp
  rw [this]
  by_cases q : s % 51 = 0
  · rw [if_pos q]; omega
  · rw [if_neg q]
set_option maxRecDepth 100000 in
theorem least_i {G : NW} (ok : G.ok) {L : Nat → List Nat} (hL : LKs G L) (hS : sn 612 (aA L) ≤ 3264) {fu : Nat} (hf : 9000 ≤ fu) {c : Nat → Nat} (hc : ∀ v, v < 11 → c v ≤ 60) : ∀ F v (st : St), v ≤ 11 → 11 - v < F → Top st → CD0 G L st → (∀ w, w < 12 → w < 11 → gI st 144 w = nI (c w)) → (∀ w, w < v → gI st 145 w = nI (c w)) → ∃ r u, LTm G c r ∧ Fr W_sd st u ∧ b_X10_leastTime_4 fu F 139 (nI (sn v c)) (nI v) st = some (r, u) := by
  intro F
  induction F with
  | zero => intro v st _ h; omega
  | succ F ih =>
    intro v st h1 h2 hT hC h4 h5
    have s6 := sn_60 hc
    by_cases e : v = 11
    · obtain ⟨u1, f1, f2, f3, f4⟩ := fill_c (o := 146) (N := 1020) (by decide) (by omega) fu (by omega) 0 st
      have hT1 : Top u1 := hT.r f3
      obtain ⟨u2, g1, g2, g3, g4⟩ := fill_c (o := 147) (N := 612) (by decide) (by omega) fu (by omega) 0 u1
      have hT2 : Top u2 := hT1.r g3
      have fr2 : Fr [(146, none), (147, none)] st u2 := (f2.tr g2).wd (by decide)
      have C2 : CD G L (fun _ => 0) u2 := by
        obtain ⟨c1, c2, c3⟩ := hC
        unfold CD
        rw [fr2.fi 139 (by decide), fr2.fi 140 (by decide), fr2.fi 141 (by decide), fr2.fi 142 (by decide), fr2.fi 143 (by decide), fr2.fi 151 (by decide), fr2.fi 152 (by decide)]
        refine ⟨c1, c2, c3, fun a ha => ?_, fun s hs => ?_, fun _ => Nat.zero_le _⟩
        · rw [g2.fi 146 (by decide), f4]; show (if a < 1020 then (0 : Int32) else _) = _; rw [if_pos ha]; rfl
        · rw [g4]; show (if s < 612 then (0 : Int32) else _) = _; rw [if_pos hs]; rfl
      obtain ⟨M, u3, a1, a2, a3, a4, a5, a6⟩ := slowest_c ok (c := c) (fu := fu) (by omega) hT2 C2 (fun v hv => ⟨by rw [fr2.fi 144 (by decide)]; exact h4 v (by omega) hv, hc v hv⟩)
      have g5 : gI u3 145 = gI st 145 := (a5.fi 145 (by decide)).trans (fr2.fi 145 (by decide))
      obtain ⟨r, u4, b1, b2, b3⟩ := least_l ok hL hS hf fu M c (fun _ => 0) u3 (by omega) a1 s6 (fun _ => ⟨a3, a4, fun v hv => by rw [g5]; exact h5 v (by omega), FI_0, fun v hv => ⟨Nat.le_refl _, hc v hv⟩, fun a => by show 0 + sn 11 c ≤ sn 11 c; omega⟩) a3 (fun T' hT' hT5 hF => by have := a2 T' hT5 hF; omega)
      refine ⟨r, u4, b1, ((fr2.tr a5).tr b2).wd (by decide), ?_⟩
      show b_X10_leastTime_4_b fu (b_X10_leastTime_4 fu F) 139 (nI (sn v c)) (nI v) st = _
      unfold b_X10_leastTime_4_b
      rw [e, if_pos (show (11 : Int32) ≤ nI 11 by decide), tp_139_6 hT, ck_t (by decide), ck_t (by decide), bd_e, cvO f1, tp_139_7 hT1, ck_t (by decide), ck_t (by decide), bd_e, cvO g1, ck_t (by decide), caO a6]
      exact b3
    · have v11 : v < 11 := by omega
      have x4 := h4 v (by omega) v11
      have c6 := hc v v11
      obtain ⟨u1, hu1⟩ : ∃ u1, u1 = sI st 145 v (nI (c v)) := ⟨_, rfl⟩
      have fr1 : Fr [(145, none)] st u1 := by rw [hu1]; exact Fr.ia st 145 _ _
      have s7 : sn v c ≤ 60 * v := by
        have : ∀ n, n ≤ 11 → sn n c ≤ 60 * n := fun n => by
          induction n with
          | zero => intro _; exact Nat.le_refl _
          | succ n ih => intro hn; show sn n c + c n ≤ _; have := ih (by omega); have := hc n (by omega); omega
        exact this v h1
      have e2 : b_X10_leastTime_4 fu (F + 1) 139 (nI (sn v c)) (nI v) st = b_X10_leastTime_4 fu F 139 (nI (sn (v + 1) c)) (nI (v + 1)) u1 := by
        show b_X10_leastTime_4_b fu (b_X10_leastTime_4 fu F) 139 (nI (sn v c)) (nI v) st = b_X10_leastTime_4 fu F 139 (nI (sn v c + c v)) (nI (v + 1)) u1
        rw [hu1]
        simp (disch := first | decide | omega) [↓bd_e, isb, ck_tt, NP, NF, NC, NB, NS, GS, kdC, tpC hT, b_X10_leastTime_4_b, x4]
      obtain ⟨r, u, b1, b2, b3⟩ := ih (v + 1) u1 (by omega) (by omega) (hT.r (by rw [hu1]; rfl)) (by
        unfold CD0 at hC ⊢
        rw [fr1.fi 139 (by decide), fr1.fi 140 (by decide), fr1.fi 141 (by decide), fr1.fi 142 (by decide), fr1.fi 143 (by decide), fr1.fi 151 (by decide), fr1.fi 152 (by decide)]
        exact hC) (fun w hw hw' => by rw [fr1.fi 144 (by decide)]; exact h4 w hw hw') (fun w hw => by
        rw [hu1, gI_sI]
        by_cases q : w = v
        · rw [if_pos ⟨rfl, q⟩, q]
        · rw [if_neg fun c => q c.2]; exact h5 w (by omega))
      exact ⟨r, u, b1, (fr1.tr b2).wd (by decide), by rw [e2]; exact b3⟩
