theorem upd_s (f : Nat → Int32) (k : Nat) (v : Int32) : upd f k v k = v := by simp [upd]
theorem upd_n (f : Nat → Int32) {k j : Nat} (v : Int32) (h : j ≠ k) : upd f k v j = f j := by simp [upd, h]
theorem inc_upd {f t : Nat → Int32} {n a b v : Nat} (ha : a < 12) (hb : b < 12) (hv : v < 12) : inc (upd f n (nI a)) (upd t n (nI b)) v (n + 1) = inc f t v n ++ (if a = v then [n] else []) ++ (if b = v then [n + 20] else []) := by
  have e : inc (upd f n (nI a)) (upd t n (nI b)) v n = inc f t v n := inc_congr n (fun w hw => ⟨upd_n _ _ (by omega), upd_n _ _ (by omega)⟩)
  have e1 : (nI a = nI v) = (a = v) := propext (nI_eq (by omega) (by omega))
  have e2 : (nI b = nI v) = (b = v) := propext (nI_eq (by omega) (by omega))
  show inc (upd f n (nI a)) (upd t n (nI b)) v n ++ (if upd f n (nI a) n = nI v then [n] else []) ++ (if upd t n (nI b) n = nI v then [n + 20] else []) = _
  rw [e, upd_s, upd_s]
  simp only [e1, e2]
set_option maxHeartbeats 1000000 in
theorem way_2 {st : St} (hT : Top st) (hP : P_ways st) (fu : Nat) (a b m t : Int32) : Two (f_X11_way fu 1 a b m t) (f_X12_way fu 153 a b m t) S_ways P_ways st := by
  by_cases h : (0 ≤ a ∧ a ≤ 11) ∧ (0 ≤ b ∧ b ≤ 11) ∧ ¬ a = b ∧ (1 ≤ m ∧ m ≤ 50) ∧ (1 ≤ t ∧ t ≤ 20)
  · have hP0 := hP
    obtain ⟨n, hn, h1, h2, h3, h4, h5, h6, h7, h8, h9, h10, h11⟩ := hP
    have h' := h
    obtain ⟨ha, hb, hab, hm, ht⟩ := h
    obtain ⟨a, ha1, rfl⟩ := nI_of3 (m := 11) ha.1 ha.2 (by omega)
    obtain ⟨b, hb1, rfl⟩ := nI_of3 (m := 11) hb.1 hb.2 (by omega)
    have hm0 : 0 ≤ m := by have := i32_le.mp hm.1; rw [i32_le]; simp at this ⊢; omega
    have ht0 : 0 ≤ t := by have := i32_le.mp ht.1; rw [i32_le]; simp at this ⊢; omega
    obtain ⟨m, hm1, rfl⟩ := nI_of3 (m := 50) hm0 hm.2 (by omega)
    obtain ⟨t, ht1, rfl⟩ := nI_of3 (m := 20) ht0 ht.2 (by omega)
    have hm2 : 1 ≤ m := (nI_leI (a := 1) (b := m) (by omega) (by omega)).mp hm.1
    have ht2 : 1 ≤ t := (nI_leI (a := 1) (b := t) (by omega) (by omega)).mp ht.1
    have hab1 : a ≠ b := fun e => hab (by rw [e])
    have hne : ∀ w, w < n → gI st 140 w ≠ gI st 141 w := fun w hw => by
      obtain ⟨x, y, p, q, e1, e2, -, -, hx, hy, hxy, -⟩ := h10 w hw
      rw [e1, e2]
      exact fun e => hxy ((nI_eq (by omega) (by omega)).mp e)
    have la := inc_len (f := gI st 140) (t := gI st 141) (v := a) n hne
    have lb := inc_len (f := gI st 140) (t := gI st 141) (v := b) n hne
    have hc := way_c hT fu hn h1 (show a < 12 by omega) (show b < 12 by omega) hab1 (h11 a (by omega)).1 (h11 b (by omega)).1 (by omega) (by omega) (nI m) (nI t) hm ht
    by_cases hq : n < 20
    · rw [if_pos hq] at hc
      generalize hla : (inc (gI st 140) (gI st 141) a n).length = La at hc la
      generalize hlb : (inc (gI st 140) (gI st 141) b n).length = Lb at hc lb
      generalize hu : sI (sI (sI (sI (sI (sI (sI (sI (sI st 140 n (nI a)) 141 n (nI b)) 142 n (nI m)) 143 n (nI t)) 152 (40 * a + La) (nI n)) 151 a (nI (La + 1))) 152 (40 * b + Lb) (nI (n + 20))) 151 b (nI (Lb + 1))) 139 13 (nI (n + 1)) = u at hc
      have hTu : Top u := by rw [← hu]; exact hT.r rfl
      have hlu : gI u 153 113 = nI n := by rw [← hu]; simp [gI_sI, h2]
      have hr := way_r hTu fu hn hlu (nI a) (nI b) (nI m) (nI t) h'
      rw [if_pos hq] at hr
      have fr1 : Fr S_ways st u := by
        rw [← hu]
        exact (((((((((Fr.ia st 140 _ _).tr (Fr.ia _ 141 _ _)).tr (Fr.ia _ 142 _ _)).tr (Fr.ia _ 143 _ _)).tr (Fr.ia _ 152 _ _)).tr (Fr.ia _ 151 _ _)).tr (Fr.ia _ 152 _ _)).tr (Fr.ia _ 151 _ _)).tr (Fr.i _ 139 13 _)).wd (by decide)
      refine ⟨_, _, _, hc, hr, (fr1.tr (((((Fr.ia u 250 _ _).tr (Fr.ia _ 251 _ _)).tr (Fr.ia _ 252 _ _)).tr (Fr.ia _ 253 _ _)).tr (Fr.i _ 153 113 _))).wd (by decide), ?_⟩
      have eu : ∀ o, o ≠ 250 → o ≠ 251 → o ≠ 252 → o ≠ 253 → o ≠ 153 → gI (sI (sI (sI (sI (sI u 250 n (nI a)) 251 n (nI b)) 252 n (nI m)) 253 n (nI t)) 153 113 (nI (n + 1))) o = gI u o := fun o p1 p2 p3 p4 p5 => by rw [gI_sI_n _ _ _ p5, gI_sI_n _ _ _ p4, gI_sI_n _ _ _ p3, gI_sI_n _ _ _ p2, gI_sI_n _ _ _ p1]
      have u140 : gI u 140 = upd (gI st 140) n (nI a) := by
        rw [← hu]; repeat rw [gI_sI_n _ _ _ (by decide)]
        rw [gI_sI_o]
      have u141 : gI u 141 = upd (gI st 141) n (nI b) := by
        rw [← hu]; repeat rw [gI_sI_n _ _ _ (show (141 : Nat) ≠ _ by decide)]
        rw [gI_sI_o, gI_sI_n _ _ _ (by decide)]
      have u142 : gI u 142 = upd (gI st 142) n (nI m) := by
        rw [← hu]; repeat rw [gI_sI_n _ _ _ (show (142 : Nat) ≠ _ by decide)]
        rw [gI_sI_o, gI_sI_n _ _ _ (by decide), gI_sI_n _ _ _ (by decide)]
      have u143 : gI u 143 = upd (gI st 143) n (nI t) := by
        rw [← hu]; repeat rw [gI_sI_n _ _ _ (show (143 : Nat) ≠ _ by decide)]
        rw [gI_sI_o, gI_sI_n _ _ _ (by decide), gI_sI_n _ _ _ (by decide), gI_sI_n _ _ _ (by decide)]
      have u151 : ∀ v, gI u 151 v = if v = b then nI (Lb + 1) else if v = a then nI (La + 1) else gI st 151 v := fun v => by
        rw [← hu]; simp [gI_sI]
      have u152 : ∀ k, gI u 152 k = if k = 40 * b + Lb then nI (n + 20) else if k = 40 * a + La then nI n else gI st 152 k := fun k => by
        rw [← hu]; simp [gI_sI]
      have uo : ∀ o, o ≠ 140 → o ≠ 141 → o ≠ 142 → o ≠ 143 → o ≠ 151 → o ≠ 152 → o ≠ 139 → gI u o = gI st o := fun o p1 p2 p3 p4 p5 p6 p7 => by
        rw [← hu, gI_sI_n _ _ _ p7, gI_sI_n _ _ _ p5, gI_sI_n _ _ _ p6, gI_sI_n _ _ _ p5, gI_sI_n _ _ _ p6, gI_sI_n _ _ _ p4, gI_sI_n _ _ _ p3, gI_sI_n _ _ _ p2, gI_sI_n _ _ _ p1]
      have w139 : gI u 139 13 = nI (n + 1) := by rw [← hu]; simp [gI_sI]
      refine ⟨n + 1, by omega, ?_⟩
      rw [eu 139 (by decide) (by decide) (by decide) (by decide) (by decide), eu 140 (by decide) (by decide) (by decide) (by decide) (by decide), eu 141 (by decide) (by decide) (by decide) (by decide) (by decide), eu 142 (by decide) (by decide) (by decide) (by decide) (by decide), eu 143 (by decide) (by decide) (by decide) (by decide) (by decide), eu 144 (by decide) (by decide) (by decide) (by decide) (by decide), eu 151 (by decide) (by decide) (by decide) (by decide) (by decide), eu 152 (by decide) (by decide) (by decide) (by decide) (by decide), eu 254 (by decide) (by decide) (by decide) (by decide) (by decide), w139, u140, u141, u142, u143, uo 144 (by decide) (by decide) (by decide) (by decide) (by decide) (by decide) (by decide), uo 254 (by decide) (by decide) (by decide) (by decide) (by decide) (by decide) (by decide)]
      refine ⟨rfl, by simp [gI_sI], ?_, ?_, ?_, ?_, h7, h8, h9, ?_, ?_⟩
      · rw [gI_sI_n _ _ _ (by decide), gI_sI_n _ _ _ (by decide), gI_sI_n _ _ _ (by decide), gI_sI_n _ _ _ (by decide), gI_sI_o, uo 250 (by decide) (by decide) (by decide) (by decide) (by decide) (by decide) (by decide), h3]
      · rw [gI_sI_n _ _ _ (by decide), gI_sI_n _ _ _ (by decide), gI_sI_n _ _ _ (by decide), gI_sI_o, gI_sI_n _ _ _ (by decide), uo 251 (by decide) (by decide) (by decide) (by decide) (by decide) (by decide) (by decide), h4]
      · rw [gI_sI_n _ _ _ (by decide), gI_sI_n _ _ _ (by decide), gI_sI_o, gI_sI_n _ _ _ (by decide), gI_sI_n _ _ _ (by decide), uo 252 (by decide) (by decide) (by decide) (by decide) (by decide) (by decide) (by decide), h5]
      · rw [gI_sI_n _ _ _ (by decide), gI_sI_o, gI_sI_n _ _ _ (by decide), gI_sI_n _ _ _ (by decide), gI_sI_n _ _ _ (by decide), uo 253 (by decide) (by decide) (by decide) (by decide) (by decide) (by decide) (by decide), h6]
      · intro w hw
        rcases Nat.lt_or_ge w n with q | q
        · obtain ⟨x, y, z1, z2, e⟩ := h10 w q
          refine ⟨x, y, z1, z2, ?_⟩
          rw [upd_n _ _ (by omega), upd_n _ _ (by omega), upd_n _ _ (by omega), upd_n _ _ (by omega)]
          exact e
        · have : w = n := by omega
          subst this
          refine ⟨a, b, m, t, ?_⟩
          rw [upd_s, upd_s, upd_s, upd_s]
          exact ⟨rfl, rfl, rfl, rfl, ha1, hb1, hab1, hm2, hm1, ht2, ht1⟩
      · intro v hv
        rw [inc_upd (by omega) (by omega) hv, u151]
        obtain ⟨g1, g2⟩ := h11 v hv
        by_cases va : a = v
        · subst va
          rw [if_pos rfl, if_neg (fun e => hab1 e), if_pos rfl, if_neg (fun e => hab1 e.symm), List.append_nil, List.length_append, hla]
          refine ⟨rfl, fun j x hj => ?_⟩
          rw [u152]
          rcases Nat.lt_or_ge j La with q | q
          · rw [List.getElem?_append_left (by omega)] at hj
            rw [if_neg (by omega), if_neg (by omega)]
            exact g2 j x hj
          · have hj1 : j < La + 1 := by
              have := (List.getElem?_eq_some_iff.mp hj).1
              rw [List.length_append, hla] at this
              exact this
            have : j = La := by omega
            subst this
            rw [List.getElem?_append_right (by omega), hla, Nat.sub_self] at hj
            cases hj
            rw [if_neg (by omega), if_pos rfl]
        · rw [if_neg va, List.append_nil]
          by_cases vb : b = v
          · subst vb
            rw [if_pos rfl, if_pos rfl, List.length_append, hlb]
            refine ⟨rfl, fun j x hj => ?_⟩
            rw [u152]
            rcases Nat.lt_or_ge j Lb with q | q
            · rw [List.getElem?_append_left (by omega)] at hj
              rw [if_neg (by omega), if_neg (by omega)]
              exact g2 j x hj
            · have hj1 : j < Lb + 1 := by
                have := (List.getElem?_eq_some_iff.mp hj).1
                rw [List.length_append, hlb] at this
                exact this
              have : j = Lb := by omega
              subst this
              rw [List.getElem?_append_right (by omega), hlb, Nat.sub_self] at hj
              cases hj
              rw [if_pos rfl]
          · rw [if_neg (fun e => vb e.symm), if_neg (fun e => va e.symm), if_neg vb, List.append_nil]
            refine ⟨g1, fun j x hj => ?_⟩
            have hjl : j < (inc (gI st 140) (gI st 141) v n).length := (List.getElem?_eq_some_iff.mp hj).1
            have hjn := inc_len (f := gI st 140) (t := gI st 141) (v := v) n hne
            rw [u152, if_neg (by omega), if_neg (by omega)]
            exact g2 j x hj
    · rw [if_neg hq] at hc
      have hr := way_r hT fu hn h2 (nI a) (nI b) (nI m) (nI t) h'
      rw [if_neg hq] at hr
      exact ⟨_, _, _, hc, hr, Fr.rf, hP0⟩
  · exact ⟨_, _, _, way_c0 hT fu a b m t h, way_r0 fu a b m t h, Fr.rf, hP⟩
