/-! PURE: ways and crowds -/
/-- the ways that touch node v, of the first n: a way's number where it begins there, 20 more where it ends there -/
def inc (f t : Nat → Int32) (v : Nat) : Nat → List Nat
  | 0 => []
  | n + 1 => inc f t v n ++ (if f n = nI v then [n] else []) ++ (if t n = nI v then [n + 20] else [])
theorem inc_congr {f t f' t' : Nat → Int32} {v : Nat} : ∀ n, (∀ w, w < n → f' w = f w ∧ t' w = t w) → inc f' t' v n = inc f t v n := by
  intro n
  induction n with
  | zero => intro _; rfl
  | succ n ih =>
    intro h
    unfold inc
    rw [ih (fun w hw => h w (by omega)), (h n (by omega)).1, (h n (by omega)).2]
theorem inc_len {f t : Nat → Int32} {v : Nat} : ∀ n, (∀ w, w < n → f w ≠ t w) → (inc f t v n).length ≤ n := by
  intro n
  induction n with
  | zero => intro _; exact Nat.le_refl 0
  | succ n ih =>
    intro h
    have h1 := ih (fun w hw => h w (by omega))
    have h2 := h n (by omega)
    unfold inc
    by_cases a : f n = nI v
    · have b : t n ≠ nI v := fun q => h2 (a.trans q.symm)
      simp [a, b]; omega
    · by_cases b : t n = nI v
      · simp [a, b]; omega
      · simp [a, b]; omega
def S_ways : List PL := [(139, some 13), (140, none), (141, none), (142, none), (143, none), (144, none), (151, none), (152, none), (153, some 113), (250, none), (251, none), (252, none), (253, none), (254, none)]
def wayOK (f t m k : Nat → Int32) (w : Nat) : Prop := ∃ a b x y : Nat, f w = nI a ∧ t w = nI b ∧ m w = nI x ∧ k w = nI y ∧ a ≤ 11 ∧ b ≤ 11 ∧ a ≠ b ∧ 1 ≤ x ∧ x ≤ 50 ∧ 1 ≤ y ∧ y ≤ 20
def P_ways (st : St) : Prop := ∃ n : Nat, n ≤ 20 ∧ gI st 139 13 = nI n ∧ gI st 153 113 = nI n ∧ gI st 140 = gI st 250 ∧ gI st 141 = gI st 251 ∧ gI st 142 = gI st 252 ∧ gI st 143 = gI st 253 ∧ gI st 144 = gI st 254 ∧ (∀ k, ∃ c : Nat, c ≤ 60 ∧ gI st 144 k = nI c) ∧ (∀ k, 11 ≤ k → gI st 144 k = 0) ∧ (∀ w, w < n → wayOK (gI st 140) (gI st 141) (gI st 142) (gI st 143) w) ∧ (∀ v, v < 12 → gI st 151 v = nI (inc (gI st 140) (gI st 141) v n).length ∧ ∀ j x, (inc (gI st 140) (gI st 141) v n)[j]? = some x → gI st 152 (40 * v + j) = nI x)
theorem P_ways.fr {st u : St} (h : P_ways st) (hs : Same S_ways st u) : P_ways u := by
  unfold P_ways at h ⊢
  rw [hs.i (o := 139) (k := 13) (by decide), hs.fi (o := 140) (by decide), hs.fi (o := 141) (by decide), hs.fi (o := 142) (by decide), hs.fi (o := 143) (by decide), hs.fi (o := 144) (by decide), hs.fi (o := 151) (by decide), hs.fi (o := 152) (by decide), hs.i (o := 153) (k := 113) (by decide), hs.fi (o := 250) (by decide), hs.fi (o := 251) (by decide), hs.fi (o := 252) (by decide), hs.fi (o := 253) (by decide), hs.fi (o := 254) (by decide)]
  exact h
theorem crowd_2 {st : St} (hT : Top st) (hP : P_ways st) (fu : Nat) (n m : Int32) : Two (f_X11_crowd fu 1 n m) (f_X12_crowd fu 153 n m) S_ways P_ways st := by
  have hc := crowd_c hT fu n m
  by_cases h : 0 ≤ n ∧ n ≤ 10 ∧ 0 ≤ m ∧ m ≤ 60
  · rw [if_pos h] at hc
    have hr := crowd_r (st := sI st 144 (ix n) m) (hT.r rfl) fu n m
    rw [if_pos h] at hr
    refine ⟨_, _, _, hc, hr, ((Fr.ia st 144 _ _).tr (Fr.ia _ 254 _ _)).wd (by decide), ?_⟩
    obtain ⟨q, hq, h1, h2, h3, h4, h5, h6, h7, h8, h9, h10, h11⟩ := hP
    have e : ∀ o, o ≠ 144 → o ≠ 254 → gI (sI (sI st 144 (ix n) m) 254 (ix n) m) o = gI st o := fun o a b => by rw [gI_sI_n _ _ _ b, gI_sI_n _ _ _ a]
    have e1 : gI (sI (sI st 144 (ix n) m) 254 (ix n) m) 144 = upd (gI st 144) (ix n) m := by rw [gI_sI_n _ _ _ (by decide), gI_sI_o]
    have e2 : gI (sI (sI st 144 (ix n) m) 254 (ix n) m) 254 = upd (gI st 254) (ix n) m := by rw [gI_sI_o, gI_sI_n _ _ _ (by decide)]
    obtain ⟨a, ha, rfl⟩ := nI_of3 (m := 10) h.1 h.2.1 (by omega)
    obtain ⟨b, hb, rfl⟩ := nI_of3 (m := 60) h.2.2.1 h.2.2.2 (by omega)
    refine ⟨q, hq, ?_⟩
    rw [e1, e2, e 139 (by decide) (by decide), e 140 (by decide) (by decide), e 141 (by decide) (by decide), e 142 (by decide) (by decide), e 143 (by decide) (by decide), e 151 (by decide) (by decide), e 152 (by decide) (by decide), e 153 (by decide) (by decide), e 250 (by decide) (by decide), e 251 (by decide) (by decide), e 252 (by decide) (by decide), e 253 (by decide) (by decide)]
    refine ⟨h1, h2, h3, h4, h5, h6, by rw [h7], upd_c (P := fun x => ∃ c : Nat, c ≤ 60 ∧ x = nI c) h8 ⟨b, hb, rfl⟩, fun k hk => ?_, h10, h11⟩
    unfold upd
    rw [if_neg (by rw [ix, ix_nI (by omega)]; omega)]
    exact h9 k hk
  · rw [if_neg h] at hc
    have hr := crowd_r hT fu n m
    rw [if_neg h] at hr
    exact ⟨_, _, _, hc, hr, Fr.rf, hP⟩
theorem note_c {st : St} (hT : Top st) (fu : Nat) {v l : Nat} (hv : v < 12) (hl : gI st 151 v = nI l) (h40 : l < 40) (x : Int32) : f_X10_note fu 139 (nI v) x st = some (sI (sI st 152 (40 * v + l) x) 151 v (nI (l + 1))) := by
  unfold f_X10_note
  have ev : v < 2147483648 := by omega
  have e1 : ¬ (40 : Int32) ≤ nI l := fun q => by have := (nI_leI (a := 40) (b := l) (by omega) (by omega)).mp q; omega
  have e2 : nI v * 2 * 20 + nI l = nI (40 * v + l) := by
    have a : nI v * 2 = nI (v * 2) := pk_mul v 2
    have b : nI (v * 2) * 20 = nI (v * 2 * 20) := pk_mul (v * 2) 20
    rw [a, b, nI_add]; congr 1; omega
  have e3 : 40 * v + l < 2147483648 := by omega
  have e4 : gI (sI st 152 (40 * v + l) x) 151 v = nI l := by rw [gI_sI, if_neg (fun q => absurd q.1 (by decide))]; exact hl
  simp [bd, ck, tp_139_11 hT, tp_139_12 hT, kd_139, kd_151, kd_152, ix_nI ev, nI_lt0 ev, nI_pos' (show v < 2 ^ 31 by omega), hv, hl, e1, e2, ix_nI e3, nI_lt0 e3, nI_pos' (show 40 * v + l < 2 ^ 31 by omega), show 40 * v + l < 480 by omega, gR_sI, e4, nI_1, b_X10_note_40]
theorem add_c {st : St} (hT : Top st) (fu : Nat) {n a b la lb : Nat} (hn : n < 20) (hl : gI st 139 13 = nI n) (ha : a < 12) (hb : b < 12) (hab : a ≠ b) (h1 : gI st 151 a = nI la) (h2 : gI st 151 b = nI lb) (h3 : la < 40) (h4 : lb < 40) (m t : Int32) : f_X10_add fu 139 (nI a) (nI b) m t st = some (nI n, sI (sI (sI (sI (sI (sI (sI (sI (sI st 140 n (nI a)) 141 n (nI b)) 142 n m) 143 n t) 152 (40 * a + la) (nI n)) 151 a (nI (la + 1))) 152 (40 * b + lb) (nI (n + 20))) 151 b (nI (lb + 1))) 139 13 (nI (n + 1))) := by
  unfold f_X10_add
  have en : n < 2147483648 := by omega
  have k1 : gI (sI (sI (sI (sI st 140 n (nI a)) 141 n (nI b)) 142 n m) 143 n t) 139 13 = nI n := by simp [gI_sI, hl]
  have k2 : gI (sI (sI (sI (sI st 140 n (nI a)) 141 n (nI b)) 142 n m) 143 n t) 151 a = nI la := by simp [gI_sI, h1]
  have k3 : gI (sI (sI (sI (sI (sI (sI st 140 n (nI a)) 141 n (nI b)) 142 n m) 143 n t) 152 (40 * a + la) (nI n)) 151 a (nI (la + 1))) 151 b = nI lb := by simp [gI_sI, h2, Ne.symm hab]
  have k4 : gI (sI (sI (sI (sI (sI (sI st 140 n (nI a)) 141 n (nI b)) 142 n m) 143 n t) 152 (40 * a + la) (nI n)) 151 a (nI (la + 1))) 139 13 = nI n := by simp [gI_sI, hl]
  have k5 : gI (sI (sI (sI (sI (sI (sI (sI (sI st 140 n (nI a)) 141 n (nI b)) 142 n m) 143 n t) 152 (40 * a + la) (nI n)) 151 a (nI (la + 1))) 152 (40 * b + lb) (nI (n + 20))) 151 b (nI (lb + 1))) 139 13 = nI n := by simp [gI_sI, hl]
  have n1 := note_c (st := sI (sI (sI (sI st 140 n (nI a)) 141 n (nI b)) 142 n m) 143 n t) (hT.r rfl) fu ha k2 h3 (nI n)
  have n2 := note_c (st := sI (sI (sI (sI (sI (sI st 140 n (nI a)) 141 n (nI b)) 142 n m) 143 n t) 152 (40 * a + la) (nI n)) 151 a (nI (la + 1))) (hT.r rfl) fu hb k3 h4 (nI (n + 20))
  have g1 : gI (sI st 140 n (nI a)) 139 13 = nI n := by simp [gI_sI, hl]
  have g2 : gI (sI (sI st 140 n (nI a)) 141 n (nI b)) 139 13 = nI n := by simp [gI_sI, hl]
  have g3 : gI (sI (sI (sI st 140 n (nI a)) 141 n (nI b)) 142 n m) 139 13 = nI n := by simp [gI_sI, hl]
  have a20 : nI n + 20 = nI (n + 20) := nI_add n 20
  simp only [bd, tp_139_0 hT, kd_139, hl, kd_140, ix, ix_nI en, gR_sI, tp_139_1 hT, tp_139_2 hT, tp_139_3 hT, kd_141, kd_142, kd_143, g1, g2, g3, k1, n1, cv_s, k4, a20, n2, k5, nI_1]
  have hin : inb (nI n) 20 := inb_of (m := nI 19) (nI_pos' (by omega)) (nI_le (by omega) (by omega)) (by decide)
  have k6 : ∀ s : St, gI (sI s 139 13 (nI (n + 1))) 139 13 = nI (n + 1) := fun s => by simp [gI_sI]
  have k7 : nI (n + 1) - 1 = nI n := nI_pred n
  rw [k6, k7]
  simp [ck, nI_pos' (show n < 2 ^ 31 by omega), ix_nI en, hn]
/-- nine places: what is read of them later -/
theorem way_c {st : St} (hT : Top st) (fu : Nat) {n a b la lb : Nat} (hn : n ≤ 20) (hl : gI st 139 13 = nI n) (ha : a < 12) (hb : b < 12) (hab : a ≠ b) (h1 : gI st 151 a = nI la) (h2 : gI st 151 b = nI lb) (h3 : la < 40) (h4 : lb < 40) (m t : Int32) (hm : 1 ≤ m ∧ m ≤ 50) (ht : 1 ≤ t ∧ t ≤ 20) : f_X11_way fu 1 (nI a) (nI b) m t st = some (if n < 20 then (nI n, sI (sI (sI (sI (sI (sI (sI (sI (sI st 140 n (nI a)) 141 n (nI b)) 142 n m) 143 n t) 152 (40 * a + la) (nI n)) 151 a (nI (la + 1))) 152 (40 * b + lb) (nI (n + 20))) 151 b (nI (lb + 1))) 139 13 (nI (n + 1))) else (-1, st)) := by
  unfold f_X11_way
  have xa : 0 ≤ nI a ∧ nI a ≤ 11 := ⟨nI_pos' (by omega), nI_le (a := a) (b := 11) (by omega) (by omega)⟩
  have xb : 0 ≤ nI b ∧ nI b ≤ 11 := ⟨nI_pos' (by omega), nI_le (a := b) (b := 11) (by omega) (by omega)⟩
  have xab : ¬ nI a = nI b := fun q => hab ((nI_eq (by omega) (by omega)).mp q)
  simp only [within_eq, ca_s, xa, xb, hm, ht, xab]
  by_cases h : n < 20
  · have e1 : ¬ (20 : Int32) ≤ nI n := fun q => by have := (nI_leI (a := 20) (b := n) (by omega) (by omega)).mp q; omega
    simp [b_X11_way_51, b_X11_way_86, bd, ck, tp_1_7 hT, kd_1, kd_139, hl, e1, h, add_c hT fu h hl ha hb hab h1 h2 h3 h4 m t, ca]
  · have e1 : (20 : Int32) ≤ nI n := nI_le (a := 20) (b := n) (by omega) (by omega)
    simp [b_X11_way_51, b_X11_way_86, b_X11_way_85, bd, ck, tp_1_7 hT, kd_1, kd_139, hl, e1, h]
theorem way_c0 {st : St} (hT : Top st) (fu : Nat) (a b m t : Int32) (h : ¬ ((0 ≤ a ∧ a ≤ 11) ∧ (0 ≤ b ∧ b ≤ 11) ∧ ¬ a = b ∧ (1 ≤ m ∧ m ≤ 50) ∧ (1 ≤ t ∧ t ≤ 20))) : f_X11_way fu 1 a b m t st = some (-1, st) := by
  unfold f_X11_way
  simp only [within_eq, ca_s]
  by_cases h1 : 0 ≤ a ∧ a ≤ 11
  · by_cases h2 : 0 ≤ b ∧ b ≤ 11
    · by_cases h3 : a = b
      · simp [h2, h3, b_X11_way_50, b_X11_way_51, b_X11_way_85, b_X11_way_86]
      · by_cases h4 : 1 ≤ m ∧ m ≤ 50
        · have h5 : ¬ (1 ≤ t ∧ t ≤ 20) := fun q => h ⟨h1, h2, h3, h4, q⟩
          simp [h1, h2, h3, h4, h5, b_X11_way_50, b_X11_way_51, b_X11_way_85, b_X11_way_86]
        · simp [h1, h2, h3, h4, b_X11_way_50, b_X11_way_51, b_X11_way_85, b_X11_way_86]
    · simp [h1, h2, b_X11_way_50, b_X11_way_51, b_X11_way_85, b_X11_way_86]
  · simp [h1, b_X11_way_50, b_X11_way_51, b_X11_way_85, b_X11_way_86]
theorem way_r0 {st : St} (fu : Nat) (a b m t : Int32) (h : ¬ ((0 ≤ a ∧ a ≤ 11) ∧ (0 ≤ b ∧ b ≤ 11) ∧ ¬ a = b ∧ (1 ≤ m ∧ m ≤ 50) ∧ (1 ≤ t ∧ t ≤ 20))) : f_X12_way fu 153 a b m t st = some (-1, st) := by
  unfold f_X12_way
  by_cases a1 : 0 ≤ a
  · by_cases a2 : a ≤ 11
    · by_cases a3 : 0 ≤ b
      · by_cases a4 : b ≤ 11
        · by_cases a5 : a = b
          · subst a5; simp [nlt_of_le a1, nlt_of_le a2, b_X12_way_58]
          · by_cases a6 : 1 ≤ m
            · by_cases a7 : m ≤ 50
              · by_cases a8 : 1 ≤ t
                · have a9 : ¬ t ≤ 20 := fun q => h ⟨⟨a1, a2⟩, ⟨a3, a4⟩, a5, ⟨a6, a7⟩, a8, q⟩
                  simp [nlt_of_le a1, nlt_of_le a2, nlt_of_le a3, nlt_of_le a4, a5, nlt_of_le a6, nlt_of_le a7, nlt_of_le a8, lt_of_nle a9, b_X12_way_58]
                · simp [nlt_of_le a1, nlt_of_le a2, nlt_of_le a3, nlt_of_le a4, a5, nlt_of_le a6, nlt_of_le a7, lt_of_nle a8, b_X12_way_58]
              · simp [nlt_of_le a1, nlt_of_le a2, nlt_of_le a3, nlt_of_le a4, a5, nlt_of_le a6, lt_of_nle a7, b_X12_way_58]
            · simp [nlt_of_le a1, nlt_of_le a2, nlt_of_le a3, nlt_of_le a4, a5, lt_of_nle a6, b_X12_way_58]
        · simp [nlt_of_le a1, nlt_of_le a2, nlt_of_le a3, lt_of_nle a4, b_X12_way_58]
      · simp [nlt_of_le a1, nlt_of_le a2, lt_of_nle a3, b_X12_way_58]
    · simp [nlt_of_le a1, lt_of_nle a2, b_X12_way_58]
  · simp [lt_of_nle a1, b_X12_way_58]
theorem way_r {st : St} (hT : Top st) (fu : Nat) {n : Nat} (hn : n ≤ 20) (hl : gI st 153 113 = nI n) (a b m t : Int32) (h : (0 ≤ a ∧ a ≤ 11) ∧ (0 ≤ b ∧ b ≤ 11) ∧ ¬ a = b ∧ (1 ≤ m ∧ m ≤ 50) ∧ (1 ≤ t ∧ t ≤ 20)) : f_X12_way fu 153 a b m t st = some (if n < 20 then (nI n, sI (sI (sI (sI (sI st 250 n a) 251 n b) 252 n m) 253 n t) 153 113 (nI (n + 1))) else (-1, st)) := by
  unfold f_X12_way
  have en : n < 2147483648 := by omega
  have g1 : gI (sI st 250 n a) 153 113 = nI n := by simp [gI_sI, hl]
  have g2 : gI (sI (sI st 250 n a) 251 n b) 153 113 = nI n := by simp [gI_sI, hl]
  have g3 : gI (sI (sI (sI st 250 n a) 251 n b) 252 n m) 153 113 = nI n := by simp [gI_sI, hl]
  have g4 : gI (sI (sI (sI (sI st 250 n a) 251 n b) 252 n m) 253 n t) 153 113 = nI n := by simp [gI_sI, hl]
  have k6 : ∀ s : St, gI (sI s 153 113 (nI (n + 1))) 153 113 = nI (n + 1) := fun s => by simp [gI_sI]
  have k7 : nI (n + 1) - 1 = nI n := nI_pred n
  by_cases hq : n < 20
  · have e1 : ¬ nI n = 20 := fun q => by have := (nI_eq (a := n) (b := 20) (by omega) (by omega)).mp q; omega
    simp [nlt_of_le h.1.1, nlt_of_le h.1.2, nlt_of_le h.2.1.1, nlt_of_le h.2.1.2, h.2.2.1, nlt_of_le h.2.2.2.1.1, nlt_of_le h.2.2.2.1.2, nlt_of_le h.2.2.2.2.1, nlt_of_le h.2.2.2.2.2, bd, ck, kd_153, kd_250, kd_251, kd_252, kd_253, hl, e1, hq, tp_153_114 hT, tp_153_115 hT, tp_153_116 hT, tp_153_117 hT, ix_nI en, nI_pos' (show n < 2 ^ 31 by omega), gR_sI, g1, g2, g3, g4, nI_1, k6, k7]
  · have e1 : nI n = 20 := by rw [show n = 20 by omega]; rfl
    simp [nlt_of_le h.1.1, nlt_of_le h.1.2, nlt_of_le h.2.1.1, nlt_of_le h.2.1.2, h.2.2.1, nlt_of_le h.2.2.2.1.1, nlt_of_le h.2.2.2.1.2, nlt_of_le h.2.2.2.2.1, nlt_of_le h.2.2.2.2.2, ck, kd_153, hl, e1, hq, b_X12_way_58]
