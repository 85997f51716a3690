/-! PURE: the text of a list, in the reference: the loop of cues -/
theorem l117 {s : St} (fu : Nat) (K : Nat → Int32 → Int32 → Int32 → St → Option (Int32 × St)) (x0 : Nat) (x1 x2 x3 : Int32) : b_X12_list_117 fu K x0 x1 x2 x3 s = K x0 x1 x2 x3 s := rfl
theorem l97 {s u : St} (fu : Nat) (K : Nat → Int32 → Int32 → Int32 → St → Option (Int32 × St)) (l x2 : Int32) {x3 v : Nat} (h3 : 1 ≤ x3) (h4 : x3 ≤ 100000) (e : f_X12_cue fu 153 x2 (nI (if x3 ≤ 60 then x3 - 1 else 59)) s = some (nI v, u)) : b_X12_list_97 fu K 153 l x2 (nI x3) s = K 153 l (nI v) (nI x3) u := by
  unfold b_X12_list_97 b_X12_list_113
  by_cases c : x3 ≤ 60
  · rw [if_pos c] at e
    rw [if_neg (show ¬ 60 < nI x3 from fun q => by have := (nI_ltI (a := 60) (b := x3) (by omega) (by omega)).mp q; omega), ck_t (show (kd 153).1 = 12 from rfl), show nI x3 - 1 = nI (x3 - 1) from pk_sub h3, e]
    rfl
  · rw [if_neg c] at e
    rw [if_pos (show 60 < nI x3 from (nI_ltI (a := 60) (b := x3) (by omega) (by omega)).mpr (by omega)), ck_t (show (kd 153).1 = 12 from rfl), show f_X12_cue fu 153 x2 59 s = some (nI v, u) from e]
    rfl
/-- the head of the loop -/
theorem l37_h {st : St} (hT : Top st) {b : BY} {n t : Nat} (fu : Nat) (K : Nat → Int32 → Int32 → Int32 → St → Option (Int32 × St)) (l x2 : Int32) {x3 : Nat} (h3 : x3 ≤ 100000) (g5 : gI st 153 5 = nI t) (g4 : t ≤ 4000) (g6 : gI st 155 t = nI (so b n t)) (g7 : gI st 157 t = nI (pl b n t)) (g8 : so b n t < 200) (g9 : gI st 153 8 = nI 0) : b_X12_list_37_b fu K 153 l x2 (nI x3) st = if so b n t = 0 then b_X12_list_120 fu 153 l (nI x3) st else cv (f_X12_needWord fu 153 1 st) fun s16 => if gI s16 153 8 = 0 then (if x3 + 1 ≤ 60 then b_X12_list_97 fu K 153 l x2 (nI (x3 + 1)) s16 else cv (f_X12_tell fu 153 (nI 2) (nI (pl b n t)) s16) fun s20 => b_X12_list_97 fu K 153 l x2 (nI (x3 + 1)) s20) else K 153 l x2 (nI x3) s16 := by
  unfold b_X12_list_37_b
  rw [ck_t (show (kd 153).1 = 12 from rfl), g9, if_pos (show nI 0 = 0 from rfl), tp_153_2 hT, ck_t (by decide), ck_t (show (kd 153).1 = 12 from rfl), bd_e, ck_t (show (kd 153).1 = 12 from rfl), g5, ck_t (in155 g4), show ix (nI t) = t from ix_nI (by omega), g6]
  by_cases c : so b n t = 0
  · rw [if_pos (show nI (so b n t) = 0 by rw [c]; rfl), if_pos c]
  · rw [if_neg (show ¬ nI (so b n t) = 0 from fun e => c ((nI_eq (a := so b n t) (b := 0) (by omega) (by omega)).mp e)), if_neg c, tp_153_4 hT, ck_t (by decide), ck_t (show (kd 153).1 = 12 from rfl), bd_e, ck_t (show (kd 153).1 = 12 from rfl), ck_t (in157 g4), g7, bd_e, ck_t (show (kd 153).1 = 12 from rfl)]
    congr 1
    funext s16
    rw [ck_t (show (kd 153).1 = 12 from rfl), show nI x3 + 1 = nI (x3 + 1) from nI_add x3 1, bd_e]
    by_cases c8 : gI s16 153 8 = 0
    · rw [if_pos c8, if_pos c8]
      by_cases c6 : x3 + 1 ≤ 60
      · rw [if_pos (show nI (x3 + 1) ≤ 60 from (nI_leI (a := x3 + 1) (b := 60) (by omega) (by omega)).mpr c6), if_pos c6]
      · rw [if_neg (show ¬ nI (x3 + 1) ≤ 60 from fun q => by have := (nI_leI (a := x3 + 1) (b := 60) (by omega) (by omega)).mp q; omega), if_neg c6, ck_t (show (kd 153).1 = 12 from rfl)]
        rfl
    · rw [if_neg c8, if_neg c8]
      rfl
theorem l120_D {s : St} {b : BY} {n T f p M : Nat} (h : DM b n T f p M s) (fu : Nat) (l x3 : Int32) : b_X12_list_120 fu 153 l x3 s = some (-10 - nI p, s) := by
  obtain ⟨t, s', -, -, -, -, -, -, -, -, -, -, q1, q2, q3, q4, -⟩ := h.see
  unfold b_X12_list_120
  rw [ck_t (show (kd 153).1 = 12 from rfl), q1, if_neg (show ¬ nI f = 0 from fun e => by have := (nI_eq (a := f) (b := 0) (by omega) (by omega)).mp e; omega), ck_t (show (kd 153).1 = 12 from rfl), q4]
theorem l37_1 {st : St} (fu : Nat) (K : Nat → Int32 → Int32 → Int32 → St → Option (Int32 × St)) (l x2 x3 : Int32) (g9 : gI st 153 8 = nI 1) : b_X12_list_37_b fu K 153 l x2 x3 st = b_X12_list_120 fu 153 l x3 st := by
  unfold b_X12_list_37_b
  rw [ck_t (show (kd 153).1 = 12 from rfl), g9, if_neg (by decide)]
theorem Wq_5 {a b : St} (h : Fr W5 a b) : Fr Wq a b := h.sub (by simp [W5, Wq])
theorem l37_D {b : BY} {n T f p : Nat} {fu : Nat} (hf : 9000 ≤ fu) (l : Int32) : ∀ (F M x2 x3 : Nat) (st : St), x2 ≤ 20000000 → x3 + M ≤ 10000 → M ≤ 4000 → M + 1 < F → Top st → DM b n T f p M st → (∃ a, a ≤ 300 ∧ gI st 153 35 = nI a) → ∃ u, b_X12_list_37 fu F 153 l (nI x2) (nI x3) st = some (-10 - nI p, u) ∧ Fr Wq st u ∧ Top u ∧ gI u 153 6 = nI f := by
  intro F
  induction F with
  | zero => intro M x2 x3 st _ _ _ hF; omega
  | succ F ih =>
    intro M x2 x3 st h2 h3 hM hF hT h h35
    have un : b_X12_list_37 fu (F + 1) 153 l (nI x2) (nI x3) st = b_X12_list_37_b fu (b_X12_list_37 fu F) 153 l (nI x2) (nI x3) st := rfl
    rw [un]
    have fin : ∀ s1, Fr Wq st s1 → Top s1 → ∀ M', DM b n T f p M' s1 → b_X12_list_37_b fu (b_X12_list_37 fu F) 153 l (nI x2) (nI x3) st = b_X12_list_120 fu 153 l (nI x3) s1 → ∃ u, b_X12_list_37_b fu (b_X12_list_37 fu F) 153 l (nI x2) (nI x3) st = some (-10 - nI p, u) ∧ Fr Wq st u ∧ Top u ∧ gI u 153 6 = nI f := fun s1 fr1 hT1 M' d1 e => by
      obtain ⟨t, s', -, -, -, -, -, -, -, -, -, -, q1, -⟩ := d1.see
      exact ⟨s1, by rw [e]; exact l120_D d1 fu _ _, fr1, hT1, q1⟩
    obtain ⟨t, s, g5, g4, g6, g7, g8, g9, g10, g11, g12, g13, -, -, -, -, -, n4⟩ := h.see
    by_cases s1 : s = 1
    · subst s1
      exact fin st Fr.rf hT M h (l37_1 fu _ _ _ _ g9)
    · have s0 : s = 0 := by omega
      subst s0
      have hd := l37_h hT fu (b_X12_list_37 fu F) l (nI x2) (x3 := x3) (by omega) g5 g4 g6 g7 g8 g9
      by_cases c : so b n t = 0
      · rw [if_pos c] at hd
        exact fin st Fr.rf hT M h hd
      · rw [if_neg c] at hd
        obtain ⟨a1, e1, fr1, hT1, d1⟩ := needW_D hT h (fu := fu) (by omega) (w := 1) (by omega) (by omega)
        rw [e1, cv_s] at hd
        have hM1 : 1 ≤ M := by
          have := (g13 rfl).2
          have : t ≠ T := fun e => c (g11.mpr e)
          omega
        obtain ⟨a, ha, h35⟩ := h35
        have k35 : ∃ a, a ≤ 300 ∧ gI a1 153 35 = nI a := ⟨a, ha, by rw [(W5_k fr1).1]; exact h35⟩
        by_cases c8 : gI a1 153 8 = 0
        · rw [if_pos c8] at hd
          have tl := tell_D hT1 d1 fu (k := 2) (q := pl b n t) (by omega) (by omega) g12 (Or.inl (g13 rfl).1)
          obtain ⟨v, u1, y1, y2, y3, y4, y5, y6⟩ := cue_D hT1 d1 hf (by omega) (k := if x3 + 1 ≤ 60 then x3 + 1 - 1 else 59) (bf := x2) (by by_cases q : x3 + 1 ≤ 60 <;> simp [q] <;> omega) h2 c8 k35
          have e97 := l97 (s := a1) fu (b_X12_list_37 fu F) l (nI x2) (x3 := x3 + 1) (by omega) (by omega) y1
          have hd2 : b_X12_list_37_b fu (b_X12_list_37 fu F) 153 l (nI x2) (nI x3) st = b_X12_list_37 fu F 153 l (nI v) (nI (x3 + 1)) u1 := by
            rw [hd]
            by_cases q : x3 + 1 ≤ 60
            · rw [if_pos q]; exact e97
            · rw [if_neg q, tl, cv_s]; exact e97
          obtain ⟨u, r1, r2, r3, r4⟩ := ih (M - 1) v (x3 + 1) u1 y2 (by omega) (by omega) (by omega) y4 y5 y6
          exact ⟨u, by rw [hd2]; exact r1, (Wq_5 fr1).tt (y3.tt r2), r3, r4⟩
        · rw [if_neg c8] at hd
          obtain ⟨u, r1, r2, r3, r4⟩ := ih (M - 1) x2 x3 a1 h2 (by omega) (by omega) (by omega) hT1 d1 k35
          exact ⟨u, by rw [hd]; exact r1, (Wq_5 fr1).tt r2, r3, r4⟩
theorem RRs.w5 {c a : Nat} {D : LD} {s u : St} (h : RRs c a D s) (fr : Fr W5 s u) : RRs c a D u := by
  obtain ⟨h1, h2, h3, h4, h5⟩ := h
  have K := W5_k fr
  refine ⟨by rw [K.1]; exact h1, h2.fr (W6_5 fr), fun i hi => ?_, fun i hi => ?_, fun i hi ch hc => ?_⟩
  · rw [K.2.2.1, K.2.2.2.1, K.2.2.2.2.1]; exact h3 i hi
  · rw [K.2.1, fr.fi 178 (by decide)]; exact h4 i hi
  · rw [fr.fi 179 (by decide)]; exact h5 i hi ch hc
set_option maxHeartbeats 4000000 in
theorem l37_s {b : BY} {n T : Nat} {fu : Nat} (hf : 9000 ≤ fu) (l : Int32) : ∀ (g F c a t : Nat) (D : LD) (st : St), n < g + t → 4200 + g < F → Top st → RS b n T t st → RRs c a D st → LOK c a D → (∀ x t', pList b n g c a D t = .inl (x, t') → ∃ u, b_X12_list_37 fu F 153 l (nI (if c = 0 then 0 else D 0 (c - 1))) (nI c) st = b_X12_list_120 fu 153 l (nI x.1) u ∧ Fr Wq st u ∧ Top u ∧ RRs x.1 x.2.1 x.2.2 u ∧ gI u 153 6 = nI 0) ∧ (∀ f p, pList b n g c a D t = .inr (f, p) → ∃ u, b_X12_list_37 fu F 153 l (nI (if c = 0 then 0 else D 0 (c - 1))) (nI c) st = some (-10 - nI p, u) ∧ Fr Wq st u ∧ Top u ∧ gI u 153 6 = nI f) := by
  intro g
  induction g with
  | zero =>
    intro F c a t D st hg hF hT h
    have := h.2.2.1
    have := h.1.2.2.2.2.1
    omega
  | succ g ih =>
    intro F c a t D st hg hF hT h hR hL
    obtain ⟨G, rfl⟩ : ∃ G, F = G + 1 := ⟨F - 1, by omega⟩
    obtain ⟨g5, g4, g6, g7, g8, g9, g10, g11, g12⟩ := h.rd
    have tT := h.2.2.1
    have tn := h.1.2.2.2.2.1
    have n4 := h.1.2.2.2.2.2
    have c60 := hL.1
    have a3 := hL.2.1
    obtain ⟨bf, hbf⟩ : ∃ bf, bf = if c = 0 then 0 else D 0 (c - 1) := ⟨_, rfl⟩
    have bfl : bf ≤ 99999 := by
      rw [hbf]
      by_cases c0 : c = 0
      · rw [if_pos c0]; omega
      · rw [if_neg c0]; exact (hL.2.2.2.2.1 (c - 1) (by omega)).1.2.1
    rw [← hbf]
    have un : b_X12_list_37 fu (G + 1) 153 l (nI bf) (nI c) st = b_X12_list_37_b fu (b_X12_list_37 fu G) 153 l (nI bf) (nI c) st := rfl
    rw [un]
    have hd := l37_h hT fu (b_X12_list_37 fu G) l (nI bf) (x3 := c) (by omega) g5 g4 g6 g7 g8 g9
    have ep : pList b n (g + 1) c a D t = if so b n t = 0 then .inl ((c, a, D), t) else pb (pCue b n c a D t) fun x t1 => pList b n g (c + 1) x.1 x.2 t1 := rfl
    rw [ep]
    by_cases s0 : so b n t = 0
    · rw [if_pos s0] at hd ⊢
      refine ⟨fun x t' e => ?_, fun f p e => (by cases e)⟩
      injection e with e
      injection e with e1 e2
      subst e1
      exact ⟨st, hd, Fr.rf, hT, hR, h.2.2.2.1⟩
    · rw [if_neg s0] at hd ⊢
      obtain ⟨s1, e1, fr1, hT1, co1⟩ := needW_q hT h (fu := fu) (by omega) (w := 1) (by omega) (by omega)
      rw [e1, cv_s] at hd
      have R1 := hR.w5 fr1
      cases hw : wB b n t 1
      · -- no cue
        have e2 : pCue b n c a D t = .inr (1, pl b n t) := by
          unfold pCue pHead
          rw [hw]; rfl
        have e3 : pWd b n 1 t = .inr (1, pl b n t) := by unfold pWd; rw [hw]; rfl
        rw [e3] at co1
        have d1 : DM b n T 1 (pl b n t) (T - t - 1) s1 := co1
        rw [e2]
        refine ⟨fun x t' e => (by cases e), fun f p e => ?_⟩
        injection e with e
        injection e with e4 e5
        subst e4 e5
        by_cases c8 : gI s1 153 8 = 0
        · -- it is stopped
          exfalso
          obtain ⟨-, W2⟩ := needW_s hT h (fu := fu) (by omega) (w := 1) (by omega) (by omega)
          obtain ⟨u, u1, -, -, u4⟩ := W2 (wB_f.mp hw)
          rw [e1] at u1
          injection u1 with u1
          subst u1
          have := u4.1.2.2.2.2.2.2.2.1
          rw [c8] at this
          exact absurd this (by decide)
        · rw [if_neg c8] at hd
          obtain ⟨u, r1, r2, r3, r4⟩ := l37_D hf l G (T - t - 1) bf c s1 (by omega) (by omega) (by omega) (by omega) hT1 d1 ⟨a, a3, R1.1⟩
          exact ⟨u, by rw [hd]; exact r1, (Wq_5 fr1).tt r2, r3, r4⟩
      · have e3 : pWd b n 1 t = .inl ((), t + 1) := by unfold pWd; rw [hw]; rfl
        rw [e3] at co1
        have d1 : RS b n T (t + 1) s1 := co1.1
        have i8 := d1.2.2.2.2.2.2.2.1
        rw [i8, if_pos (show nI 0 = 0 from rfl)] at hd
        by_cases c6 : c + 1 ≤ 60
        · rw [if_pos c6] at hd
          rw [pCue_T hw (by omega)]
          have so1 : so b n (t + 1 - 1) ≠ 46 := by
            rw [show t + 1 - 1 = t by omega, (wB_t.mp hw).1]; decide
          obtain ⟨v, s2, y1, y2, y3, y4, y5, co2⟩ := cue_p hT1 d1 hf (show c < 60 by omega) hL R1 so1
          rw [← hbf] at y1
          have e97 := l97 (s := s1) fu (b_X12_list_37 fu G) l (nI bf) (x3 := c + 1) (by omega) (by omega) (by rw [if_pos c6, show c + 1 - 1 = c by omega]; exact y1)
          rw [e97] at hd
          cases hp : pCueT b n c a D (t + 1) with
          | inr e' =>
            rw [hp] at co2
            refine ⟨fun x t' e => (by cases e), fun f p e => ?_⟩
            have e : (.inr e' : PR (Nat × Nat × LD)) = .inr (f, p) := e
            injection e with e
            subst e
            obtain ⟨u, r1, r2, r3, r4⟩ := l37_D hf l G (T - (t + 1) - 1) v (c + 1) s2 y2 (by omega) (by omega) (by omega) y4 co2 y5
            exact ⟨u, by rw [hd]; exact r1, (Wq_5 fr1).tt (y3.tt r2), r3, r4⟩
          | inl z =>
            obtain ⟨⟨a', D'⟩, t1⟩ := z
            rw [hp] at co2
            obtain ⟨d2, R2, hv⟩ := co2
            have d2 : RS b n T t1 s2 := d2
            have R2 : RRs (c + 1) a' D' s2 := R2
            have hv : v = D' 0 c := hv
            rw [pb_i]
            have hcue : pCue b n c a D t = .inl ((a', D'), t1) := by rw [pCue_T hw (by omega)]; exact hp
            obtain ⟨q1, q2, q3, q4, q5⟩ := pCue_i hcue
            have L2 : LOK (c + 1) a' D' := q5 hL
            obtain ⟨I1, I2⟩ := ih G (c + 1) a' t1 D' s2 (by omega) (by omega) y4 d2 R2 L2
            rw [if_neg (by omega), show c + 1 - 1 = c by omega, ← hv] at I1 I2
            refine ⟨fun x t' e => ?_, fun f p e => ?_⟩
            · obtain ⟨u, r1, r2, r3, r4, r5⟩ := I1 x t' e
              exact ⟨u, by rw [hd]; exact r1, (Wq_5 fr1).tt (y3.tt r2), r3, r4, r5⟩
            · obtain ⟨u, r1, r2, r3, r4⟩ := I2 f p e
              exact ⟨u, by rw [hd]; exact r1, (Wq_5 fr1).tt (y3.tt r2), r3, r4⟩
        · rw [if_neg c6] at hd
          have e2 : pCue b n c a D t = .inr (2, pl b n t) := by
            unfold pCue pHead
            rw [hw, if_pos rfl, if_pos (by omega)]; rfl
          rw [e2]
          refine ⟨fun x t' e => (by cases e), fun f p e => ?_⟩
          injection e with e
          injection e with e4 e5
          subst e4 e5
          have p0 := pl_s s0
          obtain ⟨s2, x1, x2, x3, x4⟩ := tell_S hT1 d1 fu (k := 2) (q := pl b n t) (by omega) (by omega) p0
          rw [x1, cv_s] at hd
          have j8 : gI s2 153 8 = nI 0 := by
            obtain ⟨u, u1, u2, u3, u4⟩ := (tell_r hT1 d1 fu (k := 2) (q := pl b n t) (by omega) (by omega) (pl_b b n t).2).1 (Or.inl rfl)
            rw [x1] at u1
            injection u1 with u1
            subst u1
            exact u4.2.2.2.2.2.2.2.1
          obtain ⟨v, s3, y1, y2, y3, y4, y5, y6⟩ := cue_D x3 x4 hf (by omega) (k := 59) (bf := bf) (by omega) (by omega) j8 ⟨a, a3, by rw [(W5_k x2).1]; exact R1.1⟩
          have e97 := l97 (s := s2) fu (b_X12_list_37 fu G) l (nI bf) (x3 := c + 1) (by omega) (by omega) (by rw [if_neg c6]; exact y1)
          rw [e97] at hd
          obtain ⟨u, r1, r2, r3, r4⟩ := l37_D hf l G (T - (t + 1)) v (c + 1) s3 y2 (by omega) (by omega) (by omega) y4 y5 y6
          exact ⟨u, by rw [hd]; exact r1, (Wq_5 fr1).tt ((Wq_5 x2).tt (y3.tt r2)), r3, r4⟩
