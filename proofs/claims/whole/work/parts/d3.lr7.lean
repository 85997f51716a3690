/-! PURE: the text of a list, in the reference: the acts of a cue, what it tracks -/
def scO (D : LD) (ch lo : Nat) : Nat → Option Nat
  | 0 => none
  | h + 1 => if h < lo then none else if (D 11 h).testBit ch then some (D 10 h) else scO D ch lo h
theorem scO_c {D E : LD} {ch lo : Nat} : ∀ h, (∀ i, i < h → E 11 i = D 11 i ∧ E 10 i = D 10 i) → scO E ch lo h = scO D ch lo h
  | 0, _ => rfl
  | h + 1, e => by
    show (if h < lo then none else if (E 11 h).testBit ch then some (E 10 h) else scO E ch lo h) = (if h < lo then none else if (D 11 h).testBit ch then some (D 10 h) else scO D ch lo h)
    rw [(e h (by omega)).1, (e h (by omega)).2, scO_c h (fun i hi => e i (by omega))]
theorem scO_0 {D : LD} {ch lo : Nat} : ∀ h, h ≤ lo → scO D ch lo h = none
  | 0, _ => rfl
  | h + 1, e => by
    show (if h < lo then none else if (D 11 h).testBit ch then some (D 10 h) else scO D ch lo h) = none
    rw [if_pos (by omega)]
theorem scO_s {D : LD} {ch b lo : Nat} (hb : b ≤ lo) : ∀ h, lo ≤ h → scO D ch b h = (scO D ch lo h).or (scO D ch b lo)
  | 0, e => by
    have : lo = 0 := by omega
    subst this
    rfl
  | h + 1, e => by
    by_cases c : lo = h + 1
    · subst c
      rw [scO_0 (h + 1) (Nat.le_refl _)]; rfl
    · show (if h < b then none else if (D 11 h).testBit ch then some (D 10 h) else scO D ch b h) = (if h < lo then none else if (D 11 h).testBit ch then some (D 10 h) else scO D ch lo h).or (scO D ch b lo)
      rw [if_neg (show ¬ h < b by omega), if_neg (show ¬ h < lo by omega)]
      by_cases t : (D 11 h).testBit ch = true
      · rw [if_pos t, if_pos t]; rfl
      · rw [if_neg t, if_neg t]; exact scO_s hb h (by omega)
def trk (D : LD) (i ch : Nat) : Nat := (scO D ch (D 6 i) (D 7 (i + 1))).getD 0
theorem scO_A (D : LD) (ch lo a k w v m : Nat) (h : lo ≤ a) : scO (stA D a k w v m) ch lo (a + 1) = if m.testBit ch then some v else scO D ch lo a := by
  show (if a < lo then none else if (stA D a k w v m 11 a).testBit ch then some (stA D a k w v m 10 a) else scO (stA D a k w v m) ch lo a) = _
  rw [if_neg (by omega), stA_11, stA_10, if_pos rfl, if_pos rfl, scO_c a (fun i hi => ⟨by rw [stA_11, if_neg (by omega)], by rw [stA_10, if_neg (by omega)]⟩)]
def ARx (a : Nat) (D : LD) (st : St) : Prop := ∀ i, i < a → gI st 180 i = nI (rk (D 8 i)) ∧ gI st 181 i = nI (D 9 i) ∧ gI st 182 i = nI (if D 8 i = 0 then 0 else D 10 i)
def AR (k lo : Nat) (E : Nat → Int32) (a : Nat) (D : LD) (st : St) : Prop := gI st 153 35 = nI a ∧ ARx a D st ∧ (gI st 177 k = nI (a - lo) ∧ ∀ i, i ≠ k → gI st 177 i = E i) ∧ lo ≤ a ∧ ∀ c, 1 ≤ c → c ≤ 64 → gI st 184 c = nI (scO D (c - 1) lo a).isSome.toNat ∧ ∀ v, scO D (c - 1) lo a = some v → gI st 183 c = nI v
theorem AR.step {k lo a : Nat} {E : Nat → Int32} {D : LD} {st u : St} (h : AR k lo E a D st) {x : AC} (hp : APost k a st u x) (hx : x.1 ≠ 0 → x.2.2.2 = 0) : AR k lo E (a + 1) (stA D a x.1 x.2.1 x.2.2.1 x.2.2.2) u := by
  obtain ⟨h1, h2, h3, h4, h5⟩ := h
  obtain ⟨p1, p2, p3, p4, p5, p6⟩ := hp
  refine ⟨p1, fun i hi => ?_, ?_, by omega, fun c c1 c2 => ?_⟩
  · rw [p2, p3, p4, stA_8, stA_9, stA_10]
    by_cases e : i = a
    · rw [if_pos e, if_pos e, if_pos e, if_pos e, if_pos e, if_pos e]
      exact ⟨rfl, rfl, rfl⟩
    · rw [if_neg e, if_neg e, if_neg e, if_neg e, if_neg e, if_neg e]
      exact h2 i (by omega)
  · refine ⟨by rw [p5, if_pos rfl, h3.1, nI_add, show a - lo + 1 = a + 1 - lo by omega], fun i hi => ?_⟩
    rw [p5, if_neg hi]; exact h3.2 i hi
  · obtain ⟨q1, q2⟩ := p6 c c1 c2
    obtain ⟨r1, r2⟩ := h5 c c1 c2
    rw [scO_A _ _ _ _ _ _ _ _ h4, q1, q2]
    cases e : x.2.2.2.testBit (c - 1)
    · simp only [Bool.false_eq_true, if_false]
      exact ⟨r1, r2⟩
    · simp only [if_true]
      refine ⟨rfl, fun v hv => ?_⟩
      injection hv with hv
      rw [hv]
theorem AR.w5 {k lo a : Nat} {E : Nat → Int32} {D : LD} {st u : St} (h : AR k lo E a D st) (fr : Fr W5 st u) : AR k lo E a D u := by
  have K := W5_k fr
  obtain ⟨h1, h2, h3, h4, h5⟩ := h
  refine ⟨by rw [K.1]; exact h1, fun i hi => ?_, by rw [K.2.1]; exact h3, h4, fun c c1 c2 => ?_⟩
  · rw [K.2.2.1, K.2.2.2.1, K.2.2.2.2.1]; exact h2 i hi
  · rw [K.2.2.2.2.2.1, K.2.2.2.2.2.2]; exact h5 c c1 c2
theorem needS_st {st : St} (hT : Top st) {b : BY} {n T f p M : Nat} (h : DM b n T f p M st) (h8 : gI st 153 8 = nI 1) (fu : Nat) {c : Nat} (hc : 3 < c) (hc2 : c < 200) : ∃ u, f_X12_needSign fu 153 (nI c) st = some u ∧ Fr W5 st u ∧ Top u ∧ DM b n T f p M u ∧ gI u 153 8 = nI 1 := by
  obtain ⟨t, s, h1, h2⟩ := h
  have s8 := h1.1.2.2.2.2.2.2.2.1
  have sl := h1.1.2.2.2.2.2.2.2.2
  have s1 : s = 1 := by
    rw [h8] at s8
    have := (nI_eq (a := 1) (b := s) (by omega) (by omega)).mp s8
    omega
  subst s1
  obtain ⟨u, u1, u2⟩ := needS_d hT h1 fu hc hc2
  rcases u2 with ⟨e, -⟩ | ⟨a1, a2, a3⟩
  · omega
  · exact ⟨u, u1, a1, a2, ⟨t, 1, a3, Or.inl rfl⟩, a3.1.2.2.2.2.2.2.2.1⟩
/-- an act at the text's end, dead: it stops -/
theorem act_D0 {st : St} (hT : Top st) {b : BY} {n T f p : Nat} (h : DM b n T f p 0 st) {fu : Nat} (hf : 9000 ≤ fu) (hs : gI st 153 8 = nI 0) {k : Nat} : ∃ u, f_X12_act fu 153 (nI k) st = some u ∧ Fr W5 st u ∧ Top u ∧ DM b n T f p 0 u ∧ gI u 153 8 = nI 1 := by
  obtain ⟨t, s, g5, g4, g6, g7, g8, g9, g10, g11, g12, g13, -, -, -, -, -, n4⟩ := h.see
  obtain ⟨r0, a0, e0, l0, l0', fr0, hT0, d0⟩ := takeW_D hT h (fu := fu) (by omega) (w := 8) (by omega) (by omega)
  have z0 : r0 = 0 := by omega
  subst z0
  obtain ⟨r1, a1, e1, l1, l1', fr1, hT1, d1⟩ := takeW_D hT0 d0 (fu := fu) (by omega) (w := 9) (by omega) (by omega)
  have z1 : r1 = 0 := by rw [if_neg (by decide)] at l1'; omega
  subst z1
  obtain ⟨r2, a2, e2, l2, l2', fr2, hT2, d2⟩ := takeW_D hT1 d1 (fu := fu) (by omega) (w := 10) (by omega) (by omega)
  have z2 : r2 = 0 := by rw [if_neg (by decide), if_neg (by decide)] at l2'; omega
  subst z2
  obtain ⟨r3, a3, e3, l3, l3', fr3, hT3, d3⟩ := takeW_D hT2 d2 (fu := fu) (by omega) (w := 11) (by omega) (by omega)
  have z3 : r3 = 0 := by rw [if_neg (by decide), if_neg (by decide), if_neg (by decide)] at l3'; omega
  subst z3
  obtain ⟨r4, a4, e4, l4, l4', fr4, hT4, d4⟩ := takeW_D hT3 d3 (fu := fu) (by omega) (w := 12) (by omega) (by omega)
  have z4 : r4 = 0 := by rw [if_neg (by decide), if_neg (by decide), if_neg (by decide), if_neg (by decide)] at l4'; omega
  subst z4
  obtain ⟨r5, a5, e5, l5, l5', fr5, hT5, d5⟩ := takeW_D hT4 d4 (fu := fu) (by omega) (w := 13) (by omega) (by omega)
  have z5 : r5 = 0 := by rw [if_neg (by decide), if_neg (by decide), if_neg (by decide), if_neg (by decide), if_neg (by decide)] at l5'; omega
  subst z5
  obtain ⟨t', s', h1, h2⟩ := d5
  obtain ⟨u, q1, q2, q3, q4⟩ := wrong_d hT5 h1 fu
  refine ⟨u, ?_, fr0.tt (fr1.tt (fr2.tt (fr3.tt (fr4.tt (fr5.tt q2))))), q3, ⟨_, _, q4, Or.inl rfl⟩, q4.1.2.2.2.2.2.2.2.1⟩
  clear h d0 d1 d2 d3 d4 h1 h2 q4
  simp (disch := first | decide | omega) [isb, ck_tt, NP, NF, NC, NB, NS, GS, kdR, tpR hT, f_X12_act, g5, g7, e0, e1, e2, e3, e4, e5, q1]
theorem c186 {st u : St} (fu : Nat) (k x4 x5 : Int32) (e : f_X12_needSign fu 153 (nI 125) st = some u) : b_X12_cue_186 fu 153 k x4 x5 st = b_X12_cue_195 fu fu 153 k x4 x5 (nI 1) u := by
  unfold b_X12_cue_186
  rw [ck_t (show (kd 153).1 = 12 from rfl), show f_X12_needSign fu 153 125 st = some u from e, cv_s]
  rfl
/-- the head of the loop of acts -/
theorem c151_h {st : St} (hT : Top st) {b : BY} {n t : Nat} (fu : Nat) (K : Nat → Int32 → Int32 → Int32 → St → Option (Int32 × St)) (k x4 x5 : Int32) (g5 : gI st 153 5 = nI t) (g4 : t ≤ 4000) (g6 : gI st 155 t = nI (so b n t)) (g8 : so b n t < 200) (g9 : gI st 153 8 = nI 0) : b_X12_cue_151_b fu K 153 k x4 x5 st = if so b n t = 125 then b_X12_cue_186 fu 153 k x4 x5 st else cv (f_X12_act fu 153 k st) fun s32 => cv (f_X12_needSign fu 153 (nI 59) s32) fun s33 => K 153 k x4 x5 s33 := by
  unfold b_X12_cue_151_b
  rw [ck_t (show (kd 153).1 = 12 from rfl), g9, if_pos (show nI 0 = 0 from rfl), tp_153_2 hT, ck_t (by decide), ck_t (show (kd 153).1 = 12 from rfl), bd_e, ck_t (show (kd 153).1 = 12 from rfl), g5, ck_t (in155 g4), show ix (nI t) = t from ix_nI (by omega), g6]
  by_cases c : so b n t = 125
  · rw [if_pos (show nI (so b n t) = 125 by rw [c]; rfl), if_pos c]
  · rw [if_neg (show ¬ nI (so b n t) = 125 from fun e => c ((nI_eq (a := so b n t) (b := 125) (by omega) (by omega)).mp e)), if_neg c, ck_t (show (kd 153).1 = 12 from rfl)]
    congr 1
theorem c151_1 {st : St} (fu : Nat) (K : Nat → Int32 → Int32 → Int32 → St → Option (Int32 × St)) (k x4 x5 : Int32) (g9 : gI st 153 8 = nI 1) : b_X12_cue_151_b fu K 153 k x4 x5 st = b_X12_cue_186 fu 153 k x4 x5 st := by
  unfold b_X12_cue_151_b
  rw [ck_t (show (kd 153).1 = 12 from rfl), g9, if_neg (by decide)]
theorem c151_D {b : BY} {n T f p : Nat} {fu : Nat} (hf : 9000 ≤ fu) {k : Nat} (hk : k < 60) (x4 x5 : Int32) : ∀ (F M : Nat) (st : St), M + 1 < F → M ≤ 4000 → Top st → DM b n T f p M st → (∃ a, a ≤ 300 ∧ gI st 153 35 = nI a) → ∃ u, b_X12_cue_151 fu F 153 (nI k) x4 x5 st = b_X12_cue_195 fu fu 153 (nI k) x4 x5 (nI 1) u ∧ Fr Wx st u ∧ Top u ∧ DM b n T f p M u ∧ ∃ a, a ≤ 300 ∧ gI u 153 35 = nI a := by
  intro F
  induction F with
  | zero => intro M st hF; omega
  | succ F ih =>
    intro M st hF hM hT h ⟨a, ha, h35⟩
    have un : b_X12_cue_151 fu (F + 1) 153 (nI k) x4 x5 st = b_X12_cue_151_b fu (b_X12_cue_151 fu F) 153 (nI k) x4 x5 st := rfl
    obtain ⟨t, s, g5, g4, g6, g7, g8, g9, g10, g11, g12, g13, -, -, -, -, -, n4⟩ := h.see
    -- the loop ends here
    have fin : ∀ s1, Top s1 → Fr Wx st s1 → DM b n T f p M s1 → (∃ a, a ≤ 300 ∧ gI s1 153 35 = nI a) → ∀ e : b_X12_cue_151 fu (F + 1) 153 (nI k) x4 x5 st = b_X12_cue_186 fu 153 (nI k) x4 x5 s1, ∃ u, b_X12_cue_151 fu (F + 1) 153 (nI k) x4 x5 st = b_X12_cue_195 fu fu 153 (nI k) x4 x5 (nI 1) u ∧ Fr Wx st u ∧ Top u ∧ DM b n T f p M u ∧ ∃ a, a ≤ 300 ∧ gI u 153 35 = nI a := fun s1 hT1 fr1 d1 ⟨a1, q1, q2⟩ e => by
      obtain ⟨u, x1, x2, x3, x4'⟩ := needS_D hT1 d1 fu (c := 125) (by omega) (by omega)
      exact ⟨u, by rw [e]; exact c186 fu _ _ _ x1, fr1.tt (Wx_5 x2), x3, x4'.mono (by omega), a1, q1, by rw [(W5_k x2).1]; exact q2⟩
    by_cases s1 : s = 1
    · subst s1
      exact fin st hT Fr.rf h ⟨a, ha, h35⟩ (by rw [un]; exact c151_1 fu _ _ _ _ g9)
    · have s0 : s = 0 := by omega
      subst s0
      have hd := c151_h hT fu (b_X12_cue_151 fu F) (nI k) x4 x5 g5 g4 g6 g8 g9
      by_cases c : so b n t = 125
      · rw [if_pos c] at hd
        exact fin st hT Fr.rf h ⟨a, ha, h35⟩ (by rw [un]; exact hd)
      · rw [if_neg c] at hd
        by_cases M0 : M = 0
        · subst M0
          obtain ⟨s1, e1, fr1, hT1, d1, i1⟩ := act_D0 hT h hf g9 (k := k)
          obtain ⟨s2, e2, fr2, hT2, d2, i2⟩ := needS_st hT1 d1 i1 fu (c := 59) (by omega) (by omega)
          rw [e1, cv_s, e2, cv_s] at hd
          obtain ⟨G, rfl⟩ : ∃ G, F = G + 1 := ⟨F - 1, by omega⟩
          have un2 : b_X12_cue_151 fu (G + 1) 153 (nI k) x4 x5 s2 = b_X12_cue_151_b fu (b_X12_cue_151 fu G) 153 (nI k) x4 x5 s2 := rfl
          exact fin s2 hT2 (Wx_5 (fr1.tt fr2)) d2 ⟨a, ha, by rw [(W5_k (fr1.tt fr2)).1]; exact h35⟩ (by rw [un, hd, un2]; exact c151_1 fu _ _ _ _ i2)
        · obtain ⟨s1, e1, fr1, hT1, d1, a1⟩ := act_D hT h hf hM g9 hk ha h35
          obtain ⟨s2, e2, fr2, hT2, d2⟩ := needS_D hT1 d1 fu (c := 59) (by omega) (by omega)
          rw [e1, cv_s, e2, cv_s] at hd
          obtain ⟨a1, q1, q2⟩ := a1
          obtain ⟨u, r1, r2, r3, r4, r5⟩ := ih (M - 1) s2 (by omega) (by omega) hT2 (d2.mono (by omega)) ⟨a1, q1, by rw [(W5_k fr2).1]; exact q2⟩
          exact ⟨u, by rw [un, hd]; exact r1, fr1.tt ((Wx_5 fr2).tt r2), r3, r4.mono (by omega), r5⟩
set_option maxHeartbeats 8000000 in
theorem c151_p {b : BY} {n T : Nat} {fu : Nat} (hf : 9000 ≤ fu) {k lo : Nat} {E : Nat → Int32} (hk : k < 60) (x4 x5 : Int32) : ∀ (g F a t : Nat) (D : LD) (st : St), n < g + t → 4100 + g < F → Top st → RS b n T t st → AR k lo E a D st → a ≤ 300 → ∃ u, b_X12_cue_151 fu F 153 (nI k) x4 x5 st = b_X12_cue_195 fu fu 153 (nI k) x4 x5 (nI 1) u ∧ Fr Wx st u ∧ Top u ∧ (∃ a', a' ≤ 300 ∧ gI u 153 35 = nI a') ∧ RO b n T (T - t - 1) (pActs b n g a D t) (fun x => AR k lo E x.1 x.2 u) u := by
  intro g
  induction g with
  | zero =>
    intro F a t D st hg hF hT h hA ha
    obtain ⟨G, rfl⟩ : ∃ G, F = G + 1 := ⟨F - 1, by omega⟩
    obtain ⟨g5, g4, g6, g7, g8, g9, g10, g11, g12⟩ := h.rd
    have tn := h.1.2.2.2.2.1
    have n4 := h.1.2.2.2.2.2
    have s0 := so_0 (b := b) (show n < t by omega)
    have un : b_X12_cue_151 fu (G + 1) 153 (nI k) x4 x5 st = b_X12_cue_151_b fu (b_X12_cue_151 fu G) 153 (nI k) x4 x5 st := rfl
    have hd := c151_h hT fu (b_X12_cue_151 fu G) (nI k) x4 x5 g5 g4 g6 g8 g9
    rw [if_neg (by omega)] at hd
    obtain ⟨s1, e1, fr1, hT1, ⟨a1, q1, q2⟩, co1⟩ := act_p hT h hf hk ha hA.1
    have k6 : fW b n t 8 6 = 6 := by
      apply Classical.byContradiction
      intro e
      have := fW_le b n t 6 8
      exact isW_s (fW_t b n t 6 8 (by omega)) s0
    have ea : pActL b n a t = .inr (1, pl b n t) := by
      unfold pActL pAct
      rw [k6, if_neg (by omega), if_pos (by omega)]
    rw [ea] at co1
    obtain ⟨s2, e2, fr2, hT2, d2⟩ := needS_D hT1 co1 fu (c := 59) (by omega) (by omega)
    rw [e1, cv_s, e2, cv_s] at hd
    obtain ⟨u, r1, r2, r3, r4, r5⟩ := c151_D hf hk x4 x5 G (T - t - 1) s2 (by omega) (by omega) hT2 (d2.mono (by omega)) ⟨a1, q1, by rw [(W5_k fr2).1]; exact q2⟩
    exact ⟨u, by rw [un, hd]; exact r1, fr1.tt ((Wx_5 fr2).tt r2), r3, r5, r4⟩
  | succ g ih =>
    intro F a t D st hg hF hT h hA ha
    obtain ⟨G, rfl⟩ : ∃ G, F = G + 1 := ⟨F - 1, by omega⟩
    obtain ⟨g5, g4, g6, g7, g8, g9, g10, g11, g12⟩ := h.rd
    have tn := h.1.2.2.2.2.1
    have n4 := h.1.2.2.2.2.2
    have un : b_X12_cue_151 fu (G + 1) 153 (nI k) x4 x5 st = b_X12_cue_151_b fu (b_X12_cue_151 fu G) 153 (nI k) x4 x5 st := rfl
    have hd := c151_h hT fu (b_X12_cue_151 fu G) (nI k) x4 x5 g5 g4 g6 g8 g9
    have ep : pActs b n (g + 1) a D t = if so b n t = 125 then .inl ((a, D), t + 1) else pb (pActL b n a t) fun x t1 => pb (pSg b n 59 t1) fun _ t2 => pActs b n g (a + 1) (stA D a x.1 x.2.1 x.2.2.1 x.2.2.2) t2 := rfl
    rw [ep]
    by_cases c : so b n t = 125
    · rw [if_pos c] at hd ⊢
      obtain ⟨u, x1, x2, x3, co⟩ := needS_q hT h fu (c := 125) (by omega) (by omega)
      have e : pSg b n 125 t = .inl ((), t + 1) := by unfold pSg; rw [if_pos c]
      rw [e] at co
      have A1 := hA.w5 x2
      exact ⟨u, by rw [un, hd]; exact c186 fu _ _ _ x1, Wx_5 x2, x3, ⟨a, ha, A1.1⟩, co.1, A1⟩
    · rw [if_neg c] at hd ⊢
      obtain ⟨s1, e1, fr1, hT1, ⟨a1, q1, q2⟩, co1⟩ := act_p hT h hf hk ha hA.1
      -- dead behind it
      have dead : ∀ f p s2, f_X12_needSign fu 153 (nI 59) s1 = some s2 → Fr W5 s1 s2 → Top s2 → DM b n T f p (T - t - 1) s2 → ∃ u, b_X12_cue_151 fu (G + 1) 153 (nI k) x4 x5 st = b_X12_cue_195 fu fu 153 (nI k) x4 x5 (nI 1) u ∧ Fr Wx st u ∧ Top u ∧ (∃ a', a' ≤ 300 ∧ gI u 153 35 = nI a') ∧ DM b n T f p (T - t - 1) u := fun f p s2 e2 fr2 hT2 d2 => by
        rw [e1, cv_s, e2, cv_s] at hd
        obtain ⟨u, r1, r2, r3, r4, r5⟩ := c151_D hf hk x4 x5 G (T - t - 1) s2 (by omega) (by omega) hT2 d2 ⟨a1, q1, by rw [(W5_k fr2).1]; exact q2⟩
        exact ⟨u, by rw [un, hd]; exact r1, fr1.tt ((Wx_5 fr2).tt r2), r3, r5, r4⟩
      cases hp : pActL b n a t with
      | inr e' =>
        rw [hp] at co1
        obtain ⟨s2, e2, fr2, hT2, d2⟩ := needS_D hT1 co1 fu (c := 59) (by omega) (by omega)
        exact dead _ _ s2 e2 fr2 hT2 (d2.mono (by omega))
      | inl x =>
        obtain ⟨x, t1⟩ := x
        rw [hp] at co1
        obtain ⟨d1, post⟩ := co1
        have d1 : RS b n T t1 s1 := d1
        obtain ⟨a3, hpa⟩ := pActL_i hp
        obtain ⟨w1, w2, w3, w4, w5, w6, w7, w8⟩ := pAct_i hpa
        have A1 := hA.step post (fun hx => (w7 hx).1)
        obtain ⟨s2, e2, fr2, hT2, co2⟩ := needS_q hT1 d1 fu (c := 59) (by omega) (by omega)
        rw [pb_i]
        cases hp2 : pSg b n 59 t1 with
        | inr e' =>
          rw [hp2] at co2
          exact dead _ _ s2 e2 fr2 hT2 (DM.mono co2 (by omega))
        | inl y =>
          obtain ⟨y, t2⟩ := y
          rw [hp2] at co2
          have d2 : RS b n T t2 s2 := co2.1
          have := (pSg_i hp2).2
          rw [pb_i]
          rw [e1, cv_s, e2, cv_s] at hd
          obtain ⟨u, r1, r2, r3, r4, r5⟩ := ih G (a + 1) t2 _ s2 (by omega) (by omega) hT2 d2 (A1.w5 fr2) (by omega)
          refine ⟨u, by rw [un, hd]; exact r1, fr1.tt ((Wx_5 fr2).tt r2), r3, r4, ?_⟩
          cases hp3 : pActs b n g (a + 1) (stA D a x.1 x.2.1 x.2.2.1 x.2.2.2) t2 with
          | inr e' => rw [hp3] at r5; exact DM.mono r5 (by omega)
          | inl z => rw [hp3] at r5; exact r5
