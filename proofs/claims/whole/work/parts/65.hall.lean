/-! PURE: the hall: sections, lines, rows, seats -/
def S_hall : List PL := [(116, none), (117, none), (118, none), (119, none), (120, none), (214, none), (215, none), (216, none), (217, none), (218, none)]
def W_hall : List PL := S_hall
def P_hall (st : St) : Prop := gI st 116 = gI st 214 ∧ (∀ k, ∃ p : Nat, p ≤ 99999 ∧ gI st 116 k = nI p) ∧ gI st 118 = gI st 216 ∧ (∀ r, ∃ n : Nat, n ≤ 30 ∧ gI st 118 r = nI n) ∧ gI st 119 = gI st 217 ∧ (∀ r k n : Nat, gI st 118 r = nI n → n ≤ k → k < 30 → gI st 119 (30 * r + k) = 0) ∧ (∀ k, gI st 119 k = 0 ∨ gI st 119 k = 1 ∨ gI st 119 k = 2) ∧ (∀ r, r < 40 → gI st 118 r = 0 → gI st 215 r = -1) ∧ (∀ r, gI st 118 r ≠ 0 → gI st 117 r = gI st 215 r ∧ ∃ s : Nat, s ≤ 7 ∧ gI st 117 r = nI s) ∧ (∀ d, (gI st 218 d = 0 ∨ gI st 218 d = 1) ∧ (d < 4 → gI st 120 d = 1 - gI st 218 d))
theorem P_hall.fr {st u : St} (h : P_hall st) (hs : Same S_hall st u) : P_hall u := by
  unfold P_hall at h ⊢
  rw [hs.fi (o := 116) (by decide), hs.fi (o := 117) (by decide), hs.fi (o := 118) (by decide), hs.fi (o := 119) (by decide), hs.fi (o := 120) (by decide), hs.fi (o := 214) (by decide), hs.fi (o := 215) (by decide), hs.fi (o := 216) (by decide), hs.fi (o := 217) (by decide), hs.fi (o := 218) (by decide)]
  exact h
theorem nI_of3 {a : Int32} {m : Nat} (h0 : 0 ≤ a) (h1 : a ≤ nI m) (hm : m < 2147483648) : ∃ j : Nat, j ≤ m ∧ a = nI j := by
  obtain ⟨j, hj, rfl⟩ := nI_of (x := a) (fun q => by have := i32_lt.mp q; have := i32_le.mp h0; omega)
  exact ⟨j, (nI_leI hj (by omega)).mp h1, rfl⟩
theorem upd_c {f : Nat → Int32} {k : Nat} {v : Int32} {P : Int32 → Prop} (h : ∀ j, P (f j)) (hv : P v) : ∀ j, P (upd f k v j) := fun j => by
  unfold upd
  by_cases e : j = k
  · rw [if_pos e]; exact hv
  · rw [if_neg e]; exact h j
theorem section_2 {st : St} (hT : Top st) (hP : P_hall st) (fu : Nat) (s p : Int32) : Two (f_X11_section fu 1 s p) (f_X12_section fu 153 s p) W_hall P_hall st := by
  have hc := section_c hT fu s p
  by_cases h : 0 ≤ s ∧ s ≤ 7 ∧ 0 ≤ p ∧ p ≤ 99999
  · rw [if_pos h] at hc
    have hr := section_r (st := sI st 116 (ix s) p) (hT.r rfl) fu s p
    rw [if_pos h] at hr
    refine ⟨_, _, _, hc, hr, ((Fr.ia st 116 _ _).tr (Fr.ia _ 214 _ _)).wd (by decide), ?_⟩
    obtain ⟨q, hq, rfl⟩ := nI_of3 (m := 99999) h.2.2.1 h.2.2.2 (by omega)
    unfold P_hall at hP ⊢
    simp only [gI_sI_o, gI_sI_n _ _ _ (show (117 : Nat) ≠ 214 by decide), gI_sI_n _ _ _ (show (118 : Nat) ≠ 214 by decide), gI_sI_n _ _ _ (show (119 : Nat) ≠ 214 by decide), gI_sI_n _ _ _ (show (120 : Nat) ≠ 214 by decide), gI_sI_n _ _ _ (show (116 : Nat) ≠ 214 by decide), gI_sI_n _ _ _ (show (215 : Nat) ≠ 214 by decide), gI_sI_n _ _ _ (show (216 : Nat) ≠ 214 by decide), gI_sI_n _ _ _ (show (217 : Nat) ≠ 214 by decide), gI_sI_n _ _ _ (show (218 : Nat) ≠ 214 by decide), gI_sI_n _ _ _ (show (117 : Nat) ≠ 116 by decide), gI_sI_n _ _ _ (show (118 : Nat) ≠ 116 by decide), gI_sI_n _ _ _ (show (119 : Nat) ≠ 116 by decide), gI_sI_n _ _ _ (show (120 : Nat) ≠ 116 by decide), gI_sI_n _ _ _ (show (214 : Nat) ≠ 116 by decide), gI_sI_n _ _ _ (show (215 : Nat) ≠ 116 by decide), gI_sI_n _ _ _ (show (216 : Nat) ≠ 116 by decide), gI_sI_n _ _ _ (show (217 : Nat) ≠ 116 by decide), gI_sI_n _ _ _ (show (218 : Nat) ≠ 116 by decide)]
    refine ⟨by rw [hP.1], ?_, hP.2.2⟩
    exact upd_c (P := fun x => ∃ p : Nat, p ≤ 99999 ∧ x = nI p) hP.2.1 ⟨q, hq, rfl⟩
  · rw [if_neg h] at hc
    have hr := section_r hT fu s p
    rw [if_neg h] at hr
    exact ⟨_, _, _, hc, hr, Fr.rf, hP⟩
theorem line_2 {st : St} (hT : Top st) (hP : P_hall st) (fu : Nat) (d v : Int32) (hv : v = 0 ∨ v = 1) : Two (f_X11_line fu 1 d v) (f_X12_line fu 153 d v) W_hall P_hall st := by
  have hc := line_c hT fu d v hv
  by_cases h : 0 ≤ d ∧ d ≤ 3
  · rw [if_pos h] at hc
    have hr := line_r (st := sI st 120 (ix d) (1 - v)) (hT.r rfl) fu d v hv
    rw [if_pos h] at hr
    refine ⟨_, _, _, hc, hr, ((Fr.ia st 120 _ _).tr (Fr.ia _ 218 _ _)).wd (by decide), ?_⟩
    obtain ⟨h1, h2, h3, h4, h5, h6, h7, h8, h9, h10⟩ := hP
    have e : ∀ o, o ≠ 120 → o ≠ 218 → gI (sI (sI st 120 (ix d) (1 - v)) 218 (ix d) v) o = gI st o := fun o a b => by rw [gI_sI_n _ _ _ b, gI_sI_n _ _ _ a]
    unfold P_hall
    rw [e 116 (by decide) (by decide), e 117 (by decide) (by decide), e 118 (by decide) (by decide), e 119 (by decide) (by decide), e 214 (by decide) (by decide), e 215 (by decide) (by decide), e 216 (by decide) (by decide), e 217 (by decide) (by decide)]
    refine ⟨h1, h2, h3, h4, h5, h6, h7, h8, h9, fun k => ?_⟩
    rw [gI_sI_o, gI_sI_n _ _ _ (show (218 : Nat) ≠ 120 by decide), gI_sI_n _ _ _ (show (120 : Nat) ≠ 218 by decide), gI_sI_o]
    unfold upd
    by_cases hk : k = ix d
    · rw [if_pos hk, if_pos hk]; exact ⟨hv, fun _ => rfl⟩
    · rw [if_neg hk, if_neg hk]; exact h10 k
  · rw [if_neg h] at hc
    have hr := line_r hT fu d v hv
    rw [if_neg h] at hr
    exact ⟨_, _, _, hc, hr, Fr.rf, hP⟩
theorem seat_ix {r k : Nat} (hr : r < 40) (hk : k < 30) : nI r * 30 + nI k = nI (30 * r + k) := by
  have e : nI r * 30 = nI (r * 30) := pk_mul r 30
  rw [e, nI_add, Nat.mul_comm r 30]
theorem seat_ix2 {r k : Nat} (hr : r < 40) (hk : k < 30) : 30 * nI r + nI k = nI (30 * r + k) := by
  have e : 30 * nI r = nI (30 * r) := pk_mul 30 r
  rw [e, nI_add]
theorem build_l {st : St} (hT : Top st) (fu : Nat) {r n : Nat} (hr : r < 40) (hn : n ≤ 30) (hl : gI st 118 r = nI n) (s m : Int32) : ∀ (F i : Nat), i ≤ n → n - i < F → ((∀ k, i ≤ k → k < n → gI st 119 (30 * r + k) = 0) → b_X4_build_3 fu F 115 (nI r) s m (nI i) st = some (1, sI (sI st 117 r s) 118 r m)) ∧ ((¬ ∀ k, i ≤ k → k < n → gI st 119 (30 * r + k) = 0) → b_X4_build_3 fu F 115 (nI r) s m (nI i) st = some (0, st)) := by
  intro F
  induction F with
  | zero => intro i h1 h2; omega
  | succ F ih =>
    intro i h1 h2
    have er : r < 2147483648 := by omega
    rcases Nat.lt_or_ge i n with hi | hi
    · have e1 : ¬ nI n ≤ nI i := fun q => by have := (nI_leI (a := n) (b := i) (by omega) (by omega)).mp q; omega
      have e2 := seat_ix hr (show i < 30 by omega)
      have e3 : 30 * r + i < 2147483648 := by omega
      have body : b_X4_build_3 fu (F + 1) 115 (nI r) s m (nI i) st = if gI st 119 (30 * r + i) = 0 then b_X4_build_3 fu F 115 (nI r) s m (nI (i + 1)) st else some (0, st) := by
        show b_X4_build_3_b fu (b_X4_build_3 fu F) 115 (nI r) s m (nI i) st = _
        simp [b_X4_build_3_b, ck, bd, tp_115_2 hT, tp_115_3 hT, kd_115, kd_118, kd_119, ix_nI er, nI_lt0 er, hr, hl, e1, e2, ix_nI e3, nI_lt0 e3, nI_pos' (show r < 2 ^ 31 by omega), nI_pos' (show 30 * r + i < 2 ^ 31 by omega), show 30 * r + i < 1200 by omega, nI_1, isb]
      rw [body]
      by_cases hz : gI st 119 (30 * r + i) = 0
      · rw [if_pos hz]
        obtain ⟨a, b⟩ := ih (i + 1) (by omega) (by omega)
        refine ⟨fun q => a (fun k hk hk2 => q k (by omega) hk2), fun q => b (fun q2 => q (fun k hk hk2 => ?_))⟩
        rcases Nat.eq_or_lt_of_le hk with e | e
        · rw [← e]; exact hz
        · exact q2 k e hk2
      · rw [if_neg hz]
        exact ⟨fun q => absurd (q i (Nat.le_refl i) hi) hz, fun _ => rfl⟩
    · have hin : i = n := by omega
      subst hin
      refine ⟨fun _ => ?_, fun q => absurd (fun k a b => by omega) q⟩
      show b_X4_build_3_b fu (b_X4_build_3 fu F) 115 (nI r) s m (nI i) st = _
      simp [b_X4_build_3_b, ck, bd, tp_115_2 hT, tp_115_1 hT, kd_115, kd_118, kd_117, ix_nI er, nI_lt0 er, hr, hl, gR_sI, nI_pos' (show r < 2 ^ 31 by omega), Int32.le_refl, isb]
theorem row_l {st : St} (hT : Top st) (fu : Nat) {r : Nat} (hr : r < 40) (s m : Int32) : ∀ (F i : Nat), i ≤ 30 → 30 - i < F → ((∀ k, i ≤ k → k < 30 → gI st 217 (30 * r + k) = 0) → b_X12_row_36 fu F 153 (nI r) s m (nI i) st = some (1, sI (sI st 215 r s) 216 r m)) ∧ ((¬ ∀ k, i ≤ k → k < 30 → gI st 217 (30 * r + k) = 0) → b_X12_row_36 fu F 153 (nI r) s m (nI i) st = some (0, st)) := by
  intro F
  induction F with
  | zero => intro i h1 h2; omega
  | succ F ih =>
    intro i h1 h2
    have er : r < 2147483648 := by omega
    rcases Nat.lt_or_ge i 30 with hi | hi
    · have e1 : ¬ (30 : Int32) ≤ nI i := fun q => by have := (nI_leI (a := 30) (b := i) (by omega) (by omega)).mp q; omega
      have e2 := seat_ix2 hr (show i < 30 by omega)
      have e3 : 30 * r + i < 2147483648 := by omega
      have body : b_X12_row_36 fu (F + 1) 153 (nI r) s m (nI i) st = if gI st 217 (30 * r + i) = 0 then b_X12_row_36 fu F 153 (nI r) s m (nI (i + 1)) st else some (0, st) := by
        show b_X12_row_36_b fu (b_X12_row_36 fu F) 153 (nI r) s m (nI i) st = _
        simp [b_X12_row_36_b, ck, bd, tp_153_76 hT, kd_153, kd_217, e1, e2, ix_nI e3, nI_lt0 e3, nI_pos' (show 30 * r + i < 2 ^ 31 by omega), show 30 * r + i < 1200 by omega, nI_1, isb]
      rw [body]
      by_cases hz : gI st 217 (30 * r + i) = 0
      · rw [if_pos hz]
        obtain ⟨a, b⟩ := ih (i + 1) (by omega) (by omega)
        refine ⟨fun q => a (fun k hk hk2 => q k (by omega) hk2), fun q => b (fun q2 => q (fun k hk hk2 => ?_))⟩
        rcases Nat.eq_or_lt_of_le hk with e | e
        · rw [← e]; exact hz
        · exact q2 k e hk2
      · rw [if_neg hz]
        exact ⟨fun q => absurd (q i (Nat.le_refl i) hi) hz, fun _ => rfl⟩
    · have hin : i = 30 := by omega
      subst hin
      refine ⟨fun _ => ?_, fun q => absurd (fun k a b => by omega) q⟩
      show b_X12_row_36_b fu (b_X12_row_36 fu F) 153 (nI r) s m (nI 30) st = _
      have e30 : (30 : Int32) ≤ nI 30 := by decide
      simp [b_X12_row_36_b, ck, bd, tp_153_74 hT, tp_153_75 hT, kd_153, kd_215, kd_216, ix_nI er, nI_lt0 er, hr, e30, gR_sI, nI_pos' (show r < 2 ^ 31 by omega), isb]
theorem row_c {st : St} (hT : Top st) (fu : Nat) (hf : 31 ≤ fu) (r s m : Int32) (h : (0 ≤ r ∧ r ≤ 39) ∧ (0 ≤ s ∧ s ≤ 7) ∧ 1 ≤ m ∧ m ≤ 30) : f_X11_row fu 1 r s m st = ca (b_X4_build_3 fu fu 115 r s m 0 st) fun r8 s9 => ck (isb r8) (some (r8, s9)) := by
  unfold f_X11_row
  simp only [within_eq, ca_s, h.1, h.2.1, h.2.2]
  simp [bd, ck, tp_1_3 hT, kd_1, kd_115, f_X4_build]
theorem row_c0 {st : St} (fu : Nat) (r s m : Int32) (h : ¬ ((0 ≤ r ∧ r ≤ 39) ∧ (0 ≤ s ∧ s ≤ 7) ∧ 1 ≤ m ∧ m ≤ 30)) : f_X11_row fu 1 r s m st = some (0, st) := by
  unfold f_X11_row
  simp only [within_eq, ca_s]
  by_cases h1 : 0 ≤ r ∧ r ≤ 39
  · by_cases h2 : 0 ≤ s ∧ s ≤ 7
    · have h3 : ¬ (1 ≤ m ∧ m ≤ 30) := fun q => h ⟨h1, h2, q⟩
      simp [h1, h2, h3, b_X11_row_30, ck, isb]
    · simp [h1, h2, b_X11_row_30, ck, isb]
  · simp [h1, b_X11_row_30, ck, isb]
theorem row_r {st : St} (fu : Nat) (r s m : Int32) (h : (0 ≤ r ∧ r ≤ 39) ∧ (0 ≤ s ∧ s ≤ 7) ∧ 1 ≤ m ∧ m ≤ 30) : f_X12_row fu 153 r s m st = b_X12_row_36 fu fu 153 r s m 0 st := by
  unfold f_X12_row
  simp [nlt_of_le h.1.1, nlt_of_le h.1.2, nlt_of_le h.2.1.1, nlt_of_le h.2.1.2, nlt_of_le h.2.2.1, h.2.2.2]
theorem row_r0 {st : St} (fu : Nat) (r s m : Int32) (h : ¬ ((0 ≤ r ∧ r ≤ 39) ∧ (0 ≤ s ∧ s ≤ 7) ∧ 1 ≤ m ∧ m ≤ 30)) : f_X12_row fu 153 r s m st = some (0, st) := by
  unfold f_X12_row
  by_cases a1 : 0 ≤ r
  · by_cases a2 : r ≤ 39
    · by_cases a3 : 0 ≤ s
      · by_cases a4 : s ≤ 7
        · by_cases a5 : 1 ≤ m
          · have a6 : ¬ m ≤ 30 := fun q => h ⟨⟨a1, a2⟩, ⟨a3, a4⟩, a5, q⟩
            simp [nlt_of_le a1, nlt_of_le a2, nlt_of_le a3, nlt_of_le a4, nlt_of_le a5, a6, b_X12_row_31, ck, isb]
          · simp [nlt_of_le a1, nlt_of_le a2, nlt_of_le a3, nlt_of_le a4, lt_of_nle a5, b_X12_row_31, ck, isb]
        · simp [nlt_of_le a1, nlt_of_le a2, nlt_of_le a3, lt_of_nle a4, b_X12_row_31, ck, isb]
      · simp [nlt_of_le a1, nlt_of_le a2, lt_of_nle a3, b_X12_row_31, ck, isb]
    · simp [nlt_of_le a1, lt_of_nle a2, b_X12_row_31, ck, isb]
  · simp [lt_of_nle a1, b_X12_row_31, ck, isb]
theorem row_2 {st : St} (hT : Top st) (hP : P_hall st) (fu : Nat) (hf : 40 ≤ fu) (r s m : Int32) : Two (f_X11_row fu 1 r s m) (f_X12_row fu 153 r s m) W_hall P_hall st := by
  by_cases h : (0 ≤ r ∧ r ≤ 39) ∧ (0 ≤ s ∧ s ≤ 7) ∧ 1 ≤ m ∧ m ≤ 30
  · obtain ⟨r, hr, rfl⟩ := nI_of3 (m := 39) h.1.1 h.1.2 (by omega)
    obtain ⟨s, hs, rfl⟩ := nI_of3 (m := 7) h.2.1.1 h.2.1.2 (by omega)
    have hm0 : 0 ≤ m := by have := i32_le.mp h.2.2.1; rw [i32_le]; simp at this ⊢; omega
    obtain ⟨m, hm, rfl⟩ := nI_of3 (m := 30) hm0 h.2.2.2 (by omega)
    have hm1 : 1 ≤ m := (nI_leI (a := 1) (b := m) (by omega) (by omega)).mp h.2.2.1
    have hP0 := hP
    obtain ⟨h1, h2, h3, h4, h5, h6, h7, h8, h9, h10⟩ := hP
    obtain ⟨n, hn, hl⟩ := h4 r
    have hc := row_c hT fu (by omega) (nI r) (nI s) (nI m) h
    obtain ⟨c1, c2⟩ := build_l hT fu (show r < 40 by omega) hn hl (nI s) (nI m) fu 0 (Nat.zero_le _) (by omega)
    by_cases hz : ∀ k, 0 ≤ k → k < n → gI st 119 (30 * r + k) = 0
    · have c3 : b_X4_build_3 fu fu 115 (nI r) (nI s) (nI m) 0 st = some (1, sI (sI st 117 r (nI s)) 118 r (nI m)) := c1 hz
      rw [c3] at hc
      have hc2 : f_X11_row fu 1 (nI r) (nI s) (nI m) st = some (1, sI (sI st 117 r (nI s)) 118 r (nI m)) := by rw [hc]; simp [ca, ck, isb]
      have hr2 := row_r (st := sI (sI st 117 r (nI s)) 118 r (nI m)) fu (nI r) (nI s) (nI m) h
      obtain ⟨r1, r2⟩ := row_l (st := sI (sI st 117 r (nI s)) 118 r (nI m)) (hT.r rfl) fu (show r < 40 by omega) (nI s) (nI m) fu 0 (Nat.zero_le _) (by omega)
      have hz2 : ∀ k, 0 ≤ k → k < 30 → gI (sI (sI st 117 r (nI s)) 118 r (nI m)) 217 (30 * r + k) = 0 := fun k _ hk => by
        rw [gI_sI_n _ _ _ (by decide), gI_sI_n _ _ _ (by decide), ← h5]
        rcases Nat.lt_or_ge k n with q | q
        · exact hz k (Nat.zero_le _) q
        · exact h6 r k n hl q hk
      have r3 : b_X12_row_36 fu fu 153 (nI r) (nI s) (nI m) 0 (sI (sI st 117 r (nI s)) 118 r (nI m)) = some (1, sI (sI (sI (sI st 117 r (nI s)) 118 r (nI m)) 215 r (nI s)) 216 r (nI m)) := r1 hz2
      rw [r3] at hr2
      refine ⟨_, _, _, hc2, hr2, ((((Fr.ia st 117 _ _).tr (Fr.ia _ 118 _ _)).tr (Fr.ia _ 215 _ _)).tr (Fr.ia _ 216 _ _)).wd (by decide), ?_⟩
      have e : ∀ o, o ≠ 117 → o ≠ 118 → o ≠ 215 → o ≠ 216 → gI (sI (sI (sI (sI st 117 r (nI s)) 118 r (nI m)) 215 r (nI s)) 216 r (nI m)) o = gI st o := fun o a b c d => by rw [gI_sI_n _ _ _ d, gI_sI_n _ _ _ c, gI_sI_n _ _ _ b, gI_sI_n _ _ _ a]
      have e117 : gI (sI (sI (sI (sI st 117 r (nI s)) 118 r (nI m)) 215 r (nI s)) 216 r (nI m)) 117 = upd (gI st 117) r (nI s) := by rw [gI_sI_n _ _ _ (by decide), gI_sI_n _ _ _ (by decide), gI_sI_n _ _ _ (by decide), gI_sI_o]
      have e118 : gI (sI (sI (sI (sI st 117 r (nI s)) 118 r (nI m)) 215 r (nI s)) 216 r (nI m)) 118 = upd (gI st 118) r (nI m) := by rw [gI_sI_n _ _ _ (by decide), gI_sI_n _ _ _ (by decide), gI_sI_o, gI_sI_n _ _ _ (by decide)]
      have e215 : gI (sI (sI (sI (sI st 117 r (nI s)) 118 r (nI m)) 215 r (nI s)) 216 r (nI m)) 215 = upd (gI st 215) r (nI s) := by rw [gI_sI_n _ _ _ (by decide), gI_sI_o, gI_sI_n _ _ _ (by decide), gI_sI_n _ _ _ (by decide)]
      have e216 : gI (sI (sI (sI (sI st 117 r (nI s)) 118 r (nI m)) 215 r (nI s)) 216 r (nI m)) 216 = upd (gI st 216) r (nI m) := by rw [gI_sI_o, gI_sI_n _ _ _ (by decide), gI_sI_n _ _ _ (by decide), gI_sI_n _ _ _ (by decide)]
      have hmz : nI m ≠ 0 := nI_ne0 (by omega) (by omega)
      unfold P_hall
      rw [e117, e118, e215, e216, e 116 (by decide) (by decide) (by decide) (by decide), e 119 (by decide) (by decide) (by decide) (by decide), e 120 (by decide) (by decide) (by decide) (by decide), e 214 (by decide) (by decide) (by decide) (by decide), e 217 (by decide) (by decide) (by decide) (by decide), e 218 (by decide) (by decide) (by decide) (by decide)]
      refine ⟨h1, h2, by rw [h3], upd_c (P := fun x => ∃ n : Nat, n ≤ 30 ∧ x = nI n) h4 ⟨m, hm, rfl⟩, h5, ?_, h7, ?_, ?_, h10⟩
      · intro a k j ha hj hk
        unfold upd at ha
        by_cases hA : a = r
        · subst hA
          rcases Nat.lt_or_ge k n with q | q
          · exact hz k (Nat.zero_le _) q
          · exact h6 a k n hl q hk
        · rw [if_neg hA] at ha
          exact h6 a k j ha hj hk
      · intro a a40 ha
        unfold upd at ha ⊢
        by_cases hA : a = r
        · rw [if_pos hA] at ha; exact absurd ha hmz
        · rw [if_neg hA] at ha ⊢; exact h8 a a40 ha
      · intro a ha
        unfold upd at ha ⊢
        by_cases hA : a = r
        · rw [if_pos hA, if_pos hA]; exact ⟨rfl, s, hs, rfl⟩
        · rw [if_neg hA] at ha
          rw [if_neg hA, if_neg hA]; exact h9 a ha
    · have c3 : b_X4_build_3 fu fu 115 (nI r) (nI s) (nI m) 0 st = some (0, st) := c2 hz
      rw [c3] at hc
      have hc2 : f_X11_row fu 1 (nI r) (nI s) (nI m) st = some (0, st) := by rw [hc]; simp [ca, ck, isb]
      have hr2 := row_r (st := st) fu (nI r) (nI s) (nI m) h
      obtain ⟨r1, r2⟩ := row_l (st := st) hT fu (show r < 40 by omega) (nI s) (nI m) fu 0 (Nat.zero_le _) (by omega)
      have hz2 : ¬ ∀ k, 0 ≤ k → k < 30 → gI st 217 (30 * r + k) = 0 := fun q => hz (fun k a b => by rw [h5]; exact q k a (by omega))
      have r3 : b_X12_row_36 fu fu 153 (nI r) (nI s) (nI m) 0 st = some (0, st) := r2 hz2
      rw [r3] at hr2
      exact ⟨_, _, _, hc2, hr2, Fr.rf, hP0⟩
  · exact ⟨_, _, _, row_c0 fu r s m h, row_r0 fu r s m h, Fr.rf, hP⟩
