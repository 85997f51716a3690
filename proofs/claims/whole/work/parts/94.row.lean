/-! PURE: row, with the box -/
theorem row_f {st : St} (hT : Top st) (hP : P_hall st) (fu : Nat) (hf : 40 ≤ fu) (r s m : Int32) : (∃ r' s' m' : Nat, r' < 40 ∧ (∀ k, k < 30 → gI st 119 (30 * r' + k) = 0) ∧ f_X11_row fu 1 r s m st = some (1, sI (sI st 117 r' (nI s')) 118 r' (nI m')) ∧ f_X12_row fu 153 r s m (sI (sI st 117 r' (nI s')) 118 r' (nI m')) = some (1, sI (sI (sI (sI st 117 r' (nI s')) 118 r' (nI m')) 215 r' (nI s')) 216 r' (nI m'))) ∨ (f_X11_row fu 1 r s m st = some (0, st) ∧ f_X12_row fu 153 r s m st = some (0, st)) := by
  by_cases h : (0 ≤ r ∧ r ≤ 39) ∧ (0 ≤ s ∧ s ≤ 7) ∧ 1 ≤ m ∧ m ≤ 30
  · obtain ⟨r, hr, rfl⟩ := nI_of3 (m := 39) h.1.1 h.1.2 (by omega)
    obtain ⟨s, hs, rfl⟩ := nI_of3 (m := 7) h.2.1.1 h.2.1.2 (by omega)
    have hm0 : 0 ≤ m := by have := i32_le.mp h.2.2.1; rw [i32_le]; simp at this ⊢; omega
    obtain ⟨m, hm, rfl⟩ := nI_of3 (m := 30) hm0 h.2.2.2 (by omega)
    obtain ⟨h1, h2, h3, h4, h5, h6, -⟩ := hP
    obtain ⟨n, hn, hl⟩ := h4 r
    have hc := row_c hT fu (by omega) (nI r) (nI s) (nI m) h
    obtain ⟨c1, c2⟩ := build_l hT fu (show r < 40 by omega) hn hl (nI s) (nI m) fu 0 (Nat.zero_le _) (by omega)
    by_cases hz : ∀ k, 0 ≤ k → k < n → gI st 119 (30 * r + k) = 0
    · left
      have hz3 : ∀ k, k < 30 → gI st 119 (30 * r + k) = 0 := fun k hk => by
        rcases Nat.lt_or_ge k n with q | q
        · exact hz k (Nat.zero_le _) q
        · exact h6 r k n hl q hk
      have c3 : b_X4_build_3 fu fu 115 (nI r) (nI s) (nI m) 0 st = some (1, sI (sI st 117 r (nI s)) 118 r (nI m)) := c1 hz
      rw [c3] at hc
      have hc2 : f_X11_row fu 1 (nI r) (nI s) (nI m) st = some (1, sI (sI st 117 r (nI s)) 118 r (nI m)) := by rw [hc]; simp [ca, ck, isb]
      have hr2 := row_r (st := sI (sI st 117 r (nI s)) 118 r (nI m)) fu (nI r) (nI s) (nI m) h
      obtain ⟨r1, r2⟩ := row_l (st := sI (sI st 117 r (nI s)) 118 r (nI m)) (hT.r rfl) fu (show r < 40 by omega) (nI s) (nI m) fu 0 (Nat.zero_le _) (by omega)
      have hz2 : ∀ k, 0 ≤ k → k < 30 → gI (sI (sI st 117 r (nI s)) 118 r (nI m)) 217 (30 * r + k) = 0 := fun k _ hk => by
        rw [gI_sI_n _ _ _ (by decide), gI_sI_n _ _ _ (by decide), ← h5]
        exact hz3 k hk
      have r3 : b_X12_row_36 fu fu 153 (nI r) (nI s) (nI m) 0 (sI (sI st 117 r (nI s)) 118 r (nI m)) = some (1, sI (sI (sI (sI st 117 r (nI s)) 118 r (nI m)) 215 r (nI s)) 216 r (nI m)) := r1 hz2
      rw [r3] at hr2
      exact ⟨r, s, m, by omega, hz3, hc2, hr2⟩
    · right
      have c3 : b_X4_build_3 fu fu 115 (nI r) (nI s) (nI m) 0 st = some (0, st) := c2 hz
      rw [c3] at hc
      have hc2 : f_X11_row fu 1 (nI r) (nI s) (nI m) st = some (0, st) := by rw [hc]; simp [ca, ck, isb]
      have hr2 := row_r (st := st) fu (nI r) (nI s) (nI m) h
      obtain ⟨r1, r2⟩ := row_l (st := st) hT fu (show r < 40 by omega) (nI s) (nI m) fu 0 (Nat.zero_le _) (by omega)
      have hz2 : ¬ ∀ k, 0 ≤ k → k < 30 → gI st 217 (30 * r + k) = 0 := fun q => hz (fun k a b => by rw [h5]; exact q k a (by omega))
      have r3 : b_X12_row_36 fu fu 153 (nI r) (nI s) (nI m) 0 st = some (0, st) := r2 hz2
      rw [r3] at hr2
      exact ⟨hc2, hr2⟩
  · exact Or.inr ⟨row_c0 fu r s m h, row_r0 fu r s m h⟩
theorem row_3 {st : St} (hT : Top st) (hP : P_hb st) (fu : Nat) (hf : 40 ≤ fu) (r s m : Int32) : Two (f_X11_row fu 1 r s m) (f_X12_row fu 153 r s m) W_hall P_hb st := by
  obtain ⟨hH, hB⟩ := hP
  obtain ⟨y, u, w, t1, t2, t3, t4⟩ := row_2 hT hH fu hf r s m
  refine ⟨y, u, w, t1, t2, t3, t4, ?_⟩
  rcases row_f hT hH fu hf r s m with ⟨r', s', m', hr', hz, g1, g2⟩ | ⟨g1, g2⟩
  · rw [g1] at t1
    obtain ⟨-, rfl⟩ := Prod.mk.inj (Option.some.inj t1)
    rw [g2] at t2
    obtain ⟨-, rfl⟩ := Prod.mk.inj (Option.some.inj t2)
    clear t1 t2 t3 t4 g1 g2 hH
    obtain ⟨own, sz, hr, hf, n, tr, tf, tm, tp, mk, b1, b2, b3, b4⟩ := hB
    have fr : Fr [(117, some r'), (118, none), (215, none), (216, none)] st (sI (sI (sI (sI st 117 r' (nI s')) 118 r' (nI m')) 215 r' (nI s')) 216 r' (nI m')) := ((((Fr.i st 117 r' _).tr (Fr.ia _ 118 _ _)).tr (Fr.ia _ 215 _ _)).tr (Fr.ia _ 216 _ _)).wd (by simp [within'])
    obtain ⟨w, hw⟩ : ∃ w, w = sI (sI (sI (sI st 117 r' (nI s')) 118 r' (nI m')) 215 r' (nI s')) 216 r' (nI m') := ⟨_, rfl⟩
    rw [← hw] at fr ⊢
    clear hw
    refine ⟨own, sz, hr, hf, n, tr, tf, tm, tp, mk, ?_, ?_, ?_, ?_⟩
    · unfold BO
      rw [fr.fi 119 (by simp)]
      exact b1
    · intro h hh
      rw [fr.fi 126 (by simp), fr.fi 219 (by simp), fr.fi 125 (by simp), fr.fi 220 (by simp), fr.fi 221 (by simp), fr.fi 222 (by simp), fr.fi 129 (by simp), fr.fi 223 (by simp), fr.fi 1 (by simp), fr.fi 224 (by simp), fr.fi 127 (by simp), fr.fi 225 (by simp), fr.fi 128 (by simp), fr.fi 226 (by simp)]
      obtain ⟨x1, x2⟩ := b2 h hh
      refine ⟨x1, fun hp => ?_⟩
      obtain ⟨a1, a2, a3, a4, a5, a6⟩ := x2 hp
      refine ⟨a1, a2, ?_, a4, a5, a6⟩
      have ne : hr h ≠ r' := fun e => by
        have o1 := a6 (30 * hr h + hf h) (Nat.le_refl _) (by omega)
        have o2 := hz (hf h) (by omega)
        rw [← e, b1, o1] at o2
        unfold oS at o2
        rw [if_neg (by omega), if_pos (by omega)] at o2
        exact absurd o2 (by decide)
      rw [fr.ki 117 (hr h) (by simp [covers, Ne.symm ne])]
      exact a3
    · unfold BT
      rw [fr.fi 130 (by simp), fr.fi 131 (by simp), fr.fi 132 (by simp), fr.fi 133 (by simp), fr.fi 227 (by simp), fr.fi 228 (by simp), fr.fi 229 (by simp), fr.fi 230 (by simp), fr.fi 231 (by simp), fr.fi 232 (by simp), fr.fi 124 (by simp), fr.fi 153 (by simp)]
      exact b3
    · unfold BC_
      rw [fr.fi 124 (by simp), fr.kl 153 93 (by simp [covers])]
      exact b4
  · rw [g1] at t1
    obtain ⟨-, rfl⟩ := Prod.mk.inj (Option.some.inj t1)
    rw [g2] at t2
    obtain ⟨-, rfl⟩ := Prod.mk.inj (Option.some.inj t2)
    exact hB
