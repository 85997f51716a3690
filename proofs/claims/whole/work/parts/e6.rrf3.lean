/-! PURE: the text of rules, in the reference: the loop, kept; both together -/
def Wrr : List PL := [(153, some 5), (153, some 6), (153, some 7), (153, some 8), (238, none), (239, none), (240, none), (241, none), (242, none)]
theorem Wrr_5 {a b : St} (h : Fr W5 a b) : Fr Wrr a b := h.sub (by simp [W5, Wrr])
theorem Wrr_v {a b : St} (h : Fr Wv a b) : Fr Wrr a b := h.sub (by simp [Wv, Wrr])
theorem Wrr_z {a b : St} (h : Fr Wz a b) : Fr Wrr a b := h.sub (by simp [Wz, Wrr])
theorem Wrr_8 (a : St) (k : Nat) (v : Int32) : Fr Wrr a (sI a 238 k v) := (Fr.ia a 238 k v).sub (by simp [Wrr])
theorem rf_238 (a : St) (k : Nat) (v : Int32) : Same S_rf a (sI a 238 k v) := (Fr.ia a 238 k v).same (by decide)
theorem r8_h {st : St} (hT : Top st) {b : BY} {n t : Nat} (fu : Nat) (K : K8) {m c : Nat} (hm : m ≤ 100000) (g5 : gI st 153 5 = nI t) (g4 : t ≤ 4000) (g6 : gI st 155 t = nI (so b n t)) (g7 : gI st 157 t = nI (pl b n t)) (g8 : so b n t < 200) (g9 : gI st 153 8 = nI 0) : b_X12_rules_8_b fu K 153 (nI m) (nI c) st = if so b n t = 0 then b_X12_rules_379 fu 153 (nI m) (nI c) st else b_X12_rules_62 fu K fu 153 (nI m) (nI c) (nI (pl b n t)) (nI (if 20 ≤ m then 19 else m)) (nI 1) (sI st 238 (if 20 ≤ m then 19 else m) (nI c)) := by
  by_cases c0 : so b n t = 0
  · rw [if_pos c0]
    rw [c0] at g6
    simp (disch := first | decide | omega) [↓bd_e, isb, ck_tt, NP, NF, NC, NB, NS, GS, kdR, tpR hT, b_X12_rules_8_b, g9, g5, g6]
  · rw [if_neg c0]
    by_cases q : 20 ≤ m
    · rw [if_pos q]
      simp (disch := first | decide | omega) [↓bd_e, isb, ck_tt, NP, NF, NC, NB, NS, GS, kdR, tpR hT, b_X12_rules_8_b, b_X12_rules_49, g9, g5, g6, g7]
    · rw [if_neg q]
      simp (disch := first | decide | omega) [↓bd_e, isb, ck_tt, NP, NF, NC, NB, NS, GS, kdR, tpR hT, b_X12_rules_8_b, b_X12_rules_49, g9, g5, g6, g7]
theorem r8_1 {st : St} (fu : Nat) (K : K8) (x1 x2 : Int32) (g9 : gI st 153 8 = nI 1) : b_X12_rules_8_b fu K 153 x1 x2 st = b_X12_rules_379 fu 153 x1 x2 st := by
  unfold b_X12_rules_8_b
  rw [ck_t (show (kd 153).1 = 12 from rfl), g9, if_neg (by decide)]
theorem r379_D {s : St} {b : BY} {n T f p M : Nat} (h : DM b n T f p M s) (fu : Nat) (x1 x2 : Int32) : b_X12_rules_379 fu 153 x1 x2 s = some (-10 - nI p, s) := by
  obtain ⟨t, s', -, -, -, -, -, -, -, -, -, -, q1, q2, q3, q4, -⟩ := h.see
  unfold b_X12_rules_379
  rw [ck_t (show (kd 153).1 = 12 from rfl), q1, if_neg (show ¬ nI f = 0 from fun e => by have := (nI_eq (a := f) (b := 0) (by omega) (by omega)).mp e; omega), ck_t (show (kd 153).1 = 12 from rfl), q4]
theorem r8_D {b : BY} {n T f p : Nat} {fu : Nat} (hf : 9000 ≤ fu) : ∀ (F M m c : Nat) (st : St), m + M ≤ 10000 → M ≤ 4000 → (M = 0 ∨ 2 * c + M ≤ 4004) → c ≤ 2003 → M + 1 < F → Top st → DM b n T f p M st → ∃ u, b_X12_rules_8 fu F 153 (nI m) (nI c) st = some (-10 - nI p, u) ∧ Fr Wrr st u ∧ Top u ∧ gI u 153 6 = nI f := by
  intro F
  induction F with
  | zero => intro M m c st _ _ _ _ hF; omega
  | succ F ih =>
    intro M m c st hm hM hc hc3 hF hT h
    have un : b_X12_rules_8 fu (F + 1) 153 (nI m) (nI c) st = b_X12_rules_8_b fu (b_X12_rules_8 fu F) 153 (nI m) (nI c) st := rfl
    rw [un]
    obtain ⟨t, s, g5, g4, g6, g7, g8, g9, g10, g11, g12, g13, q1, -, -, -, -, n4⟩ := h.see
    by_cases s1 : s = 1
    · subst s1
      exact ⟨st, by rw [r8_1 fu _ _ _ g9]; exact r379_D h fu _ _, Fr.rf, hT, q1⟩
    · have s0 : s = 0 := by omega
      subst s0
      have hd := r8_h hT fu (b_X12_rules_8 fu F) (m := m) (c := c) (by omega) g5 g4 g6 g7 g8 g9
      by_cases c0 : so b n t = 0
      · rw [if_pos c0] at hd
        exact ⟨st, by rw [hd]; exact r379_D h fu _ _, Fr.rf, hT, q1⟩
      · rw [if_neg c0] at hd
        have hM1 : 1 ≤ M := by
          have := (g13 rfl).2
          have : t ≠ T := fun e => c0 (g11.mpr e)
          omega
        obtain ⟨k, hk⟩ : ∃ k, k = if 20 ≤ m then 19 else m := ⟨_, rfl⟩
        have hk2 : k < 20 := by
          rw [hk]
          by_cases q : 20 ≤ m
          · rw [if_pos q]; omega
          · rw [if_neg q]; omega
        rw [← hk] at hd
        obtain ⟨s2, c', M', e2, fr2, hT2, m2, d2, y6, y7⟩ := cds_D (fu := fu) (by omega) (b_X12_rules_8 fu F) (nI m) (nI (pl b n t)) (nI k) fu M c 1 (sI st 238 k (nI c)) (by omega) (by omega) (fun _ => by omega) (by omega) hc3 (hT.r rfl) (h.same (rf_238 _ _ _))
        obtain ⟨s3, e3, fr3, hT3, d3⟩ := b224_D hT2 d2 fu (b_X12_rules_8 fu F) (nI m) (nI c') (nI (pl b n t)) hk2
        obtain ⟨s4, e4, fr4, hT4, d4⟩ := needS_D hT3 d3 fu (c := 59) (by omega) (by omega)
        have tl := tell_D hT4 d4 fu (k := 2) (q := pl b n t) (by omega) (by omega) g12 (Or.inl (g13 rfl).1)
        obtain ⟨b1, b2⟩ := b345 (c := c') (q := pl b n t) hT4 fu (b_X12_rules_8 fu F) (m := m) (by omega) hk2 e4
        have e5 : b_X12_rules_8_b fu (b_X12_rules_8 fu F) 153 (nI m) (nI c) st = b_X12_rules_8 fu F 153 (nI (m + 1)) (nI c') (sI s4 238 (k + 1) (nI c')) := by
          rw [hd, e2, e3]
          by_cases q : m + 1 = 21
          · exact b2 s4 q hT4 tl
          · exact b1 q
        obtain ⟨u, r1, r2, r3, r4⟩ := ih (M' - 1) (m + 1) c' (sI s4 238 (k + 1) (nI c')) (by omega) (by omega) (by omega) y7 (by omega) (hT4.r rfl) (d4.same (rf_238 _ _ _))
        exact ⟨u, by rw [e5]; exact r1, (Wrr_8 _ _ _).tt ((Wrr_v fr2).tt ((Wrr_z fr3).tt ((Wrr_5 fr4).tt ((Wrr_8 _ _ _).tt r2)))), r3, r4⟩
def RQr (i c : Nat) (E : LD) (st : St) : Prop := (∀ r, r < i → gI st 239 r = nI (E 4 r) ∧ gI st 240 r = nI (E 5 r) ∧ gI st 238 r = nI (E 6 r) ∧ gI st 238 (r + 1) = nI (E 6 (r + 1))) ∧ CDr c E st
set_option maxHeartbeats 4000000 in
theorem r8_s {b : BY} {n T : Nat} {fu : Nat} (hf : 9000 ≤ fu) : ∀ (g F i c t : Nat) (E : LD) (st : St), n < g + t → 4200 + g < F → 2 * c ≤ t → Top st → RS b n T t st → RQr i c E st → ROK i c E → (∀ x t', pRules b n g i c E t = .inl (x, t') → ∃ u, b_X12_rules_8 fu F 153 (nI i) (nI c) st = b_X12_rules_379 fu 153 (nI x.1) (nI x.2.1) u ∧ Fr Wrr st u ∧ Top u ∧ RQr x.1 x.2.1 x.2.2 u ∧ x.2.1 ≤ 2000 ∧ gI u 153 6 = nI 0) ∧ (∀ f p, pRules b n g i c E t = .inr (f, p) → ∃ u, b_X12_rules_8 fu F 153 (nI i) (nI c) st = some (-10 - nI p, u) ∧ Fr Wrr st u ∧ Top u ∧ gI u 153 6 = nI f) := by
  intro g
  induction g with
  | zero =>
    intro F i c t E st hg hF _ hT h
    have := h.2.2.1
    have := h.1.2.2.2.2.1
    omega
  | succ g ih =>
    intro F i c t E st hg hF hct hT h hR hK
    obtain ⟨G, rfl⟩ : ∃ G, F = G + 1 := ⟨F - 1, by omega⟩
    obtain ⟨g5, g4, g6, g7, g8, g9, g10, g11, g12⟩ := h.rd
    have tT := h.2.2.1
    have tn := h.1.2.2.2.2.1
    have n4 := h.1.2.2.2.2.2
    have i20 := hK.1
    have un : b_X12_rules_8 fu (G + 1) 153 (nI i) (nI c) st = b_X12_rules_8_b fu (b_X12_rules_8 fu G) 153 (nI i) (nI c) st := rfl
    rw [un]
    have hd := r8_h hT fu (b_X12_rules_8 fu G) (m := i) (c := c) (by omega) g5 g4 g6 g7 g8 g9
    have ep : pRules b n (g + 1) i c E t = if so b n t = 0 then .inl ((i, c, E), t) else if fW b n t 18 4 < 4 ∧ 20 ≤ i then .inr (2, pl b n t) else pb (pRule b n i c E t) fun x t1 => pRules b n g (i + 1) x.1 x.2 t1 := rfl
    rw [ep]
    by_cases s0 : so b n t = 0
    · rw [if_pos s0] at hd ⊢
      refine ⟨fun x t' e => ?_, fun f p e => (by cases e)⟩
      injection e with e
      injection e with e1 e2
      subst e1
      exact ⟨st, hd, Fr.rf, hT, hR, by show c ≤ 2000; omega, h.2.2.2.1⟩
    · rw [if_neg s0] at hd ⊢
      have p0 := pl_s s0
      obtain ⟨k, hk⟩ : ∃ k, k = if 20 ≤ i then 19 else i := ⟨_, rfl⟩
      have hk2 : k < 20 := by
        rw [hk]
        by_cases q : 20 ≤ i
        · rw [if_pos q]; omega
        · rw [if_neg q]; omega
      rw [← hk] at hd
      have d0 : RS b n T t (sI st 238 k (nI c)) := RfA.same h (rf_238 _ _ _)
      have C0 : CDr c (r0E E k) (sI st 238 k (nI c)) := fun y hy => by
        rw [gI_sI_n _ _ _ (by decide), gI_sI_n _ _ _ (by decide)]
        unfold r0E
        rw [st1_n _ _ (by omega), st1_n _ _ (by omega), st1_n _ _ (by omega), st1_n _ _ (by omega), st1_n _ _ (by omega), st1_n _ _ (by omega), st1_n _ _ (by omega), st1_n _ _ (by omega)]
        exact hR.2 y hy
      obtain ⟨s2, c', M', e2, fr2, hT2, m2, y6, y7, co2⟩ := cds_s hf (b := b) (n := n) (T := T) (b_X12_rules_8 fu G) (nI i) (nI (pl b n t)) (nI k) (i := k) 4001 fu c t (r0E E k) (sI st 238 k (nI c)) (by omega) (by omega) hct (hT.r rfl) d0 C0
      have fr2' : Fr Wrr st s2 := (Wrr_8 _ _ _).tt (Wrr_v fr2)
      -- the rule as the reference reads it: at its own place k
      have rul : ∃ s3 s4 M4, b_X12_rules_8_b fu (b_X12_rules_8 fu G) 153 (nI i) (nI c) st = b_X12_rules_345 fu (b_X12_rules_8 fu G) 153 (nI i) (nI c') (nI (pl b n t)) (nI k) s3 ∧ f_X12_needSign fu 153 (nI 59) s3 = some s4 ∧ Fr Wrr st s4 ∧ Top s4 ∧ M4 ≤ T - t - 1 ∧ (M4 = 0 ∨ 2 * c' + M4 ≤ 4004) ∧ RO b n T M4 (pRule b n k c E t) (fun x => c' = x.1 ∧ CDr x.1 x.2 s4 ∧ (∀ y, gI s4 239 y = if y = k then nI (x.2 4 k) else gI st 239 y) ∧ (∀ y, gI s4 240 y = if y = k then nI (x.2 5 k) else gI st 240 y) ∧ ∀ y, gI s4 238 y = if y = k then nI c else gI st 238 y) s4 := by
        unfold pRule
        cases hp : pCds b n k 4001 c (r0E E k) t with
        | inr e' =>
          rw [hp] at co2
          obtain ⟨s3, e3, fr3, hT3, d3⟩ := b224_D hT2 co2 fu (b_X12_rules_8 fu G) (nI i) (nI c') (nI (pl b n t)) hk2
          obtain ⟨s4, e4, fr4, hT4, d4⟩ := needS_D hT3 d3 fu (c := 59) (by omega) (by omega)
          exact ⟨s3, s4, M', by rw [hd, e2, e3], e4, fr2'.tt ((Wrr_z fr3).tt (Wrr_5 fr4)), hT4, m2, y6, d4.mono (by omega)⟩
        | inl x =>
          obtain ⟨x, t1⟩ := x
          rw [hp] at co2
          obtain ⟨d2, cc, C2⟩ := co2
          have d2 : RS b n T t1 s2 := d2
          have cc : c' = x.1 := cc
          have q1 := pCds_i hp
          obtain ⟨s3, e3, fr3, hT3, co3⟩ := b224_p hT2 d2 fu (b_X12_rules_8 fu G) (nI i) (nI c') (nI (pl b n t)) hk2
          rw [pb_i]
          have cm : 2 * c' + (T - t1 - 1) ≤ 4004 := by omega
          -- the change is dead
          have dead : ∀ f p, DM b n T f p (T - t1 - 1) s3 → ∃ s3 s4 M4, b_X12_rules_8_b fu (b_X12_rules_8 fu G) 153 (nI i) (nI c) st = b_X12_rules_345 fu (b_X12_rules_8 fu G) 153 (nI i) (nI c') (nI (pl b n t)) (nI k) s3 ∧ f_X12_needSign fu 153 (nI 59) s3 = some s4 ∧ Fr Wrr st s4 ∧ Top s4 ∧ M4 ≤ T - t - 1 ∧ (M4 = 0 ∨ 2 * c' + M4 ≤ 4004) ∧ DM b n T f p M4 s4 := fun f p d3 => by
            obtain ⟨s4, e4, fr4, hT4, d4⟩ := needS_D hT3 d3 fu (c := 59) (by omega) (by omega)
            exact ⟨s3, s4, T - t1 - 1, by rw [hd, e2, e3], e4, fr2'.tt ((Wrr_z fr3).tt (Wrr_5 fr4)), hT4, by omega, Or.inr cm, d4.mono (by omega)⟩
          cases hp3 : pSg b n 58 t1 with
          | inr e' => rw [hp3] at co3; exact dead _ _ co3
          | inl y =>
            obtain ⟨y, t2⟩ := y
            rw [hp3, pb_i] at co3
            have q2 := (pSg_i hp3).2
            rw [pb_i]
            cases hp4 : pChg b n t2 with
            | inr e' => rw [hp4] at co3; exact dead _ _ co3
            | inl z =>
              obtain ⟨z, t3⟩ := z
              rw [hp4] at co3
              obtain ⟨d3, w1, w2⟩ := co3
              have d3 : RS b n T t3 s3 := d3
              have w1 : ∀ y, gI s3 239 y = if y = k then nI z.1 else gI s2 239 y := w1
              have w2 : ∀ y, gI s3 240 y = if y = k then nI z.2 else gI s2 240 y := w2
              have q3 := (pChg_i hp4).2.2.2
              obtain ⟨s4, e4, fr4, hT4, co4⟩ := needS_q hT3 d3 fu (c := 59) (by omega) (by omega)
              refine ⟨s3, s4, T - t3 - 1, by rw [hd, e2, e3], e4, fr2'.tt ((Wrr_z fr3).tt (Wrr_5 fr4)), hT4, by omega, Or.inr (by omega), ?_⟩
              rw [pb_i]
              cases hp5 : pSg b n 59 t3 with
              | inr e' => rw [hp5] at co4; exact co4
              | inl v =>
                rw [hp5] at co4
                have i39 : gI s2 239 = gI st 239 := by rw [fr2.fi 239 (by decide), gI_sI_n _ _ _ (by decide)]
                have i40 : gI s2 240 = gI st 240 := by rw [fr2.fi 240 (by decide), gI_sI_n _ _ _ (by decide)]
                refine ⟨co4.1, cc, ?_, fun y => ?_, fun y => ?_, fun y => ?_⟩
                · refine (show CDr x.1 (st1 (st1 (st1 x.2 4 k z.1) 5 k z.2) 6 (k + 1) x.1) s4 from fun y hy => ?_)
                  rw [st1_n _ _ (by omega), st1_n _ _ (by omega), st1_n _ _ (by omega), st1_n _ _ (by omega), st1_n _ _ (by omega), st1_n _ _ (by omega), fr4.fi 241 (by decide), fr4.fi 242 (by decide), fr3.fi 241 (by decide), fr3.fi 242 (by decide)]
                  exact C2 y hy
                · show gI s4 239 y = if y = k then nI (st1 (st1 (st1 x.2 4 k z.1) 5 k z.2) 6 (k + 1) x.1 4 k) else gI st 239 y
                  rw [st1_n _ _ (by omega), st1_n _ _ (by omega), st1_e, fr4.fi 239 (by decide), w1, i39]
                · show gI s4 240 y = if y = k then nI (st1 (st1 (st1 x.2 4 k z.1) 5 k z.2) 6 (k + 1) x.1 5 k) else gI st 240 y
                  rw [st1_n _ _ (by omega), st1_e, fr4.fi 240 (by decide), w2, i40]
                · rw [fr4.fi 238 (by decide), fr3.fi 238 (by decide), fr2.fi 238 (by decide), gI_sI]; simp
      obtain ⟨s3, s4, M4, e3, e4, fr4, hT4, m4, y8, co4⟩ := rul
      obtain ⟨b1, b2⟩ := b345 (c := c') (q := pl b n t) hT4 fu (b_X12_rules_8 fu G) (m := i) (by omega) hk2 e4
      by_cases q20 : 20 ≤ i
      · have i20' : i = 20 := by omega
        subst i20'
        -- the rule that is too much
        have tl : ∀ f' p', (fW b n t 18 4 < 4 → f' = 2 ∧ p' = pl b n t) → (¬ fW b n t 18 4 < 4 → f' = 1 ∧ p' = pl b n t) → ∃ s5 M5, f_X12_tell fu 153 (nI 2) (nI (pl b n t)) s4 = some s5 ∧ Fr W5 s4 s5 ∧ Top s5 ∧ M5 ≤ T - t - 1 ∧ (M5 = 0 ∨ 2 * c' + M5 ≤ 4004) ∧ DM b n T f' p' M5 s5 := fun f' p' hA hB => by
          cases hp : pRule b n k c E t with
          | inl x =>
            obtain ⟨x, t'⟩ := x
            rw [hp] at co4
            have d4 : RS b n T t' s4 := co4.1
            have cc : c' = x.1 := co4.2.1
            have q1 := pRule_i hp hk2
            have w4 : fW b n t 18 4 < 4 := by
              obtain ⟨a, ta, a1, -⟩ := pb_inl (show pb _ _ = _ from hp)
              obtain ⟨z, tz, a2, -⟩ := pb_inl (show pb _ _ = _ from a1)
              have := (pCd_i a2).1
              have := (pCd_i a2).2.1
              omega
            obtain ⟨e1, e2'⟩ := hA w4
            subst e1 e2'
            have := pl_le (b := b) (n := n) (show t + 1 ≤ t' by omega)
            obtain ⟨s5, x1, x2, x3, x4⟩ := tell_S hT4 d4 fu (k := 2) (q := pl b n t) (by omega) (by omega) (by omega)
            exact ⟨s5, T - t', x1, x2, x3, by omega, Or.inr (by omega), x4⟩
          | inr e' =>
            obtain ⟨f, p⟩ := e'
            rw [hp] at co4
            have d4 : DM b n T f p M4 s4 := co4
            by_cases w4 : fW b n t 18 4 < 4
            · obtain ⟨e1, e2'⟩ := hA w4
              subst e1 e2'
              have := pRule_b w4 hp
              obtain ⟨s5, x1, x2, x3, x4⟩ := tell_M hT4 d4 fu (k := 2) (q := pl b n t) (by omega) (by omega) (by omega)
              exact ⟨s5, M4, x1, x2, x3, m4, y8, x4⟩
            · obtain ⟨e1, e2'⟩ := hB w4
              subst e1 e2'
              have er : pRule b n k c E t = .inr (1, pl b n t) := by
                unfold pRule
                have : pCds b n k 4001 c (r0E E k) t = .inr (1, pl b n t) := by
                  show pb (pCd b n t) _ = _
                  unfold pCd
                  rw [if_pos (by omega)]; rfl
                rw [this]; rfl
              rw [er] at hp
              injection hp with hp
              injection hp with h1 h2
              subst h1 h2
              exact ⟨s4, M4, tell_D hT4 d4 fu (by omega) (by omega) (pl_b b n t).2 (Or.inr ⟨rfl, by omega⟩), Fr.rf, hT4, m4, y8, d4⟩
        have fin : ∀ f' p', (fW b n t 18 4 < 4 → f' = 2 ∧ p' = pl b n t) → (¬ fW b n t 18 4 < 4 → f' = 1 ∧ p' = pl b n t) → ∃ u, b_X12_rules_8_b fu (b_X12_rules_8 fu G) 153 (nI 20) (nI c) st = some (-10 - nI p', u) ∧ Fr Wrr st u ∧ Top u ∧ gI u 153 6 = nI f' := fun f' p' hA hB => by
          obtain ⟨s5, M5, x1, x2, x3, x4, x5, x6⟩ := tl f' p' hA hB
          obtain ⟨u, r1, r2, r3, r4⟩ := r8_D hf G M5 21 c' (sI s5 238 (k + 1) (nI c')) (by omega) (by omega) x5 y7 (by omega) (x3.r rfl) (x6.same (rf_238 _ _ _))
          exact ⟨u, by rw [e3, b2 s5 rfl x3 x1]; exact r1, fr4.tt ((Wrr_5 x2).tt ((Wrr_8 _ _ _).tt r2)), r3, r4⟩
        by_cases w4 : fW b n t 18 4 < 4
        · rw [if_pos ⟨w4, q20⟩]
          refine ⟨fun x t' e => (by cases e), fun f p e => ?_⟩
          injection e with e
          injection e with e1 e2'
          exact fin f p (fun _ => ⟨e1.symm, e2'.symm⟩) (fun h => absurd w4 h)
        · rw [if_neg (fun q => w4 q.1)]
          have er : pRule b n 20 c E t = .inr (1, pl b n t) := by
            unfold pRule
            have : pCds b n 20 4001 c (r0E E 20) t = .inr (1, pl b n t) := by
              show pb (pCd b n t) _ = _
              unfold pCd
              rw [if_pos (by omega)]; rfl
            rw [this]; rfl
          rw [er]
          refine ⟨fun x t' e => (by cases e), fun f p e => ?_⟩
          injection e with e
          injection e with e1 e2'
          exact fin f p (fun h => absurd h w4) (fun _ => ⟨e1.symm, e2'.symm⟩)
      · have hki : k = i := by rw [hk, if_neg q20]
        subst hki
        rw [if_neg (fun q => q20 q.2)]
        have e5 := b1 (by omega)
        cases hp : pRule b n k c E t with
        | inr e' =>
          rw [hp] at co4
          refine ⟨fun x t' e => (by cases e), fun f p e => ?_⟩
          have e : (.inr e' : PR (Nat × Nat × LD)) = .inr (f, p) := e
          injection e with e
          subst e
          have d4 : DM b n T f p M4 s4 := co4
          obtain ⟨u, r1, r2, r3, r4⟩ := r8_D hf G M4 (k + 1) c' (sI s4 238 (k + 1) (nI c')) (by omega) (by omega) y8 y7 (by omega) (hT4.r rfl) (d4.same (rf_238 _ _ _))
          exact ⟨u, by rw [e3, e5]; exact r1, fr4.tt ((Wrr_8 _ _ _).tt r2), r3, r4⟩
        | inl x =>
          obtain ⟨⟨cx, Ex⟩, t'⟩ := x
          rw [hp] at co4
          obtain ⟨d4, cc, C4, w1, w2, w3⟩ := co4
          have d4 : RS b n T t' s4 := d4
          have cc : c' = cx := cc
          have C4 : CDr cx Ex s4 := C4
          have w1 : ∀ y, gI s4 239 y = if y = k then nI (Ex 4 k) else gI st 239 y := w1
          have w2 : ∀ y, gI s4 240 y = if y = k then nI (Ex 5 k) else gI st 240 y := w2
          subst cc
          obtain ⟨p1, p2, p3, p4⟩ := pRule_i hp hk2
          have p3 : 2 * c' ≤ 2 * c + (t' - t) := p3
          have K2 : ROK (k + 1) c' Ex := p4 hK
          rw [pb_i]
          have old : ∀ j r, (j = 4 ∨ j = 5 ∨ j = 6) → r < k ∨ (j = 6 ∧ r = k) → Ex j r = E j r := fun j r hj hr => by
            obtain ⟨y, ta, h1, h2⟩ := pb_inl (show pb _ _ = _ from hp)
            obtain ⟨z0, tb, h3, h4⟩ := pb_inl h2
            obtain ⟨z, tc, h5, h6⟩ := pb_inl h4
            obtain ⟨z1, td, h7, h8⟩ := pb_inl h6
            injection h8 with h8
            injection h8 with h9 h10
            injection h9 with h11 h12
            rw [← h12]
            obtain ⟨r1, -, -, -⟩ := pCds_D (lo := c) h1 (Nat.le_refl _)
            rw [st1_n _ _ (by omega), st1_n _ _ (by omega), st1_n _ _ (by omega), r1 j r (by omega)]
            unfold r0E
            rw [st1_n _ _ (by omega), st1_n _ _ (by omega), st1_n _ _ (by omega), st1_n _ _ (by omega)]
          have R5 : RQr (k + 1) c' Ex (sI s4 238 (k + 1) (nI c')) := by
            refine ⟨fun r hr => ?_, C4.fr (gI_sI_n _ _ _ (by decide)) (gI_sI_n _ _ _ (by decide))⟩
            rw [gI_sI_n _ _ _ (by decide), gI_sI_n _ _ _ (by decide), w1, w2, gI_sI, gI_sI, w3, w3]
            by_cases e : r = k
            · subst e
              rw [if_pos rfl, if_pos rfl, if_neg (by omega), if_pos rfl, if_pos ⟨rfl, rfl⟩, old 6 r (by omega) (by omega), hK.2.1, K2.2.1]
              exact ⟨rfl, rfl, rfl, rfl⟩
            · obtain ⟨a1, a2, a3, a4⟩ := hR.1 r (by omega)
              rw [if_neg e, if_neg e, if_neg (by omega), if_neg e, if_neg (by omega), old 4 r (by omega) (by omega), old 5 r (by omega) (by omega), old 6 r (by omega) (by omega), a1, a2, a3, old 6 (r + 1) (by omega) (by omega)]
              refine ⟨rfl, rfl, rfl, ?_⟩
              by_cases e2 : r + 1 = k
              · rw [if_pos e2, e2, hK.2.1]
              · rw [if_neg e2, a4]
          obtain ⟨I1, I2⟩ := ih G (k + 1) c' t' Ex (sI s4 238 (k + 1) (nI c')) (by omega) (by omega) (by omega) (hT4.r rfl) (RfA.same d4 (rf_238 _ _ _)) R5 K2
          refine ⟨fun x t'' e => ?_, fun f p e => ?_⟩
          · obtain ⟨u, r1, r2, r3, r4, r5, r6⟩ := I1 x t'' e
            exact ⟨u, by rw [e3, e5]; exact r1, fr4.tt ((Wrr_8 _ _ _).tt r2), r3, r4, r5, r6⟩
          · obtain ⟨u, r1, r2, r3, r4⟩ := I2 f p e
            exact ⟨u, by rw [e3, e5]; exact r1, fr4.tt ((Wrr_8 _ _ _).tt r2), r3, r4⟩
