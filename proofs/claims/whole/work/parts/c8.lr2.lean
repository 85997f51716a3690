/-! PURE: the text of a list, in the reference: channels, in step -/
theorem so_0 {b : BY} {n t : Nat} (h : n < t) : so b n t = 0 := by
  apply Classical.byContradiction
  intro e
  have := so_t e
  omega
set_option maxHeartbeats 8000000 in
theorem ch23_p {b : BY} {n T : Nat} {fu : Nat} (hf : 9000 ≤ fu) : ∀ (g F m t : Nat) (st : St), n < g + t → 4100 + g < F → Top st → RS b n T t st → MT m st → ∃ u, b_X12_channels_23 fu F 153 (nI 1) st = b_X12_channels_137 fu 153 u ∧ Fr Wm st u ∧ Top u ∧ RO b n T (T - t - 1) (pChs b n g m t) (fun m' => MT m' u) u := by
  intro g
  induction g with
  | zero =>
    intro F m t st hg hF hT h hM
    obtain ⟨G, rfl⟩ : ∃ G, F = G + 1 := ⟨F - 1, by omega⟩
    have hs := h.2.2.2.2.2.2.2.1
    have tn := h.1.2.2.2.2.1
    have n4 := h.1.2.2.2.2.2
    obtain ⟨x, a1, e1, l1, fr1, hT1, co1⟩ := num_p hT h fu (lo := 1) (hi := 64) (by omega) (by omega)
    have e : pNum b n 1 64 t = .inr (1, pl b n t) := by unfold pNum; rw [so_0 (by omega), if_neg (by omega)]
    rw [e] at co1
    obtain ⟨u, u1, u2, u3, u4⟩ := ch_tail (by omega) (ch23_D (fu := fu) (by omega) G) (M := T - t - 1) (by omega) hs l1 e1 fr1 hT1 co1
    exact ⟨u, u1, u2, u3, u4⟩
  | succ g ih =>
    intro F m t st hg hF hT h hM
    obtain ⟨G, rfl⟩ : ∃ G, F = G + 1 := ⟨F - 1, by omega⟩
    have hs := h.2.2.2.2.2.2.2.1
    have tn := h.1.2.2.2.2.1
    have n4 := h.1.2.2.2.2.2
    have un : b_X12_channels_23 fu (G + 1) 153 (nI 1) st = b_X12_channels_23_b fu (b_X12_channels_23 fu G) 153 (nI 1) st := rfl
    rw [un]
    have ep : pChs b n (g + 1) m t = pb (pNum b n 1 64 t) fun x t1 => pb (if so b n t1 = 45 then pNum b n x 64 (t1 + 1) else .inl (x, t1)) fun y t2 => if so b n t2 = 44 then pChs b n g (m ||| bts x y) (t2 + 1) else .inl (m ||| bts x y, t2) := rfl
    rw [ep]
    obtain ⟨x, a1, e1, l1, fr1, hT1, co1⟩ := num_p hT h fu (lo := 1) (hi := 64) (by omega) (by omega)
    cases hp : pNum b n 1 64 t with
    | inr e' =>
      rw [hp] at co1
      obtain ⟨u, u1, u2, u3, u4⟩ := ch_tail (by omega) (ch23_D (fu := fu) (by omega) G) (M := T - t - 1) (by omega) hs l1 e1 fr1 hT1 co1
      exact ⟨u, u1, u2, u3, u4⟩
    | inl y =>
      obtain ⟨y, t1⟩ := y
      rw [hp] at co1
      obtain ⟨h1, hv⟩ := co1
      have hv : x = y := hv
      subst hv
      have h1 : RS b n T t1 a1 := h1
      obtain ⟨q1, q2, q3, q4, q5⟩ := pNum_i hp
      subst q5
      rw [pb_i]
      obtain ⟨a2, e2, fr2, hT2, h2⟩ := takeS_p hT1 h1 fu (c := 45) (by omega) (by omega)
      -- behind the range: the channels are meant, and what follows
      have rest : ∀ y t2 a3, x ≤ y → y ≤ 64 → t + 1 ≤ t2 → Fr W5 st a3 → Top a3 → RS b n T t2 a3 → b_X12_channels_23_b fu (b_X12_channels_23 fu G) 153 (nI 1) st = b_X12_channels_91 fu (b_X12_channels_23 fu G) 153 (nI x) (nI y) a3 → ∃ u, b_X12_channels_23_b fu (b_X12_channels_23 fu G) 153 (nI 1) st = b_X12_channels_137 fu 153 u ∧ Fr Wm st u ∧ Top u ∧ RO b n T (T - t - 1) (if so b n t2 = 44 then pChs b n g (m ||| bts x y) (t2 + 1) else .inl (m ||| bts x y, t2)) (fun m' => MT m' u) u := fun y t2 a3 y1 y2 t12 fr3 hT3 h3 e => by
        obtain ⟨a4, e4, fr4, v4⟩ := ch94 (fu := fu) (b_X12_channels_23 fu G) (y := y) (by omega) fu x a3 hT3 l1 (by omega) (by omega)
        have hT4 := top_185 hT3 fr4
        have h4 : RS b n T t2 a4 := RfA.same h3 (rf_185 fr4)
        have M4 : MT (m ||| bts x y) a4 := fun c c1 c2 => by
          rw [v4 q3 y2 c, Nat.testBit_or, bts_t q3 y1 y2 c1 c2]
          by_cases d : x ≤ c ∧ c ≤ y
          · rw [if_pos d, decide_eq_true d, Bool.or_true]; rfl
          · rw [if_neg d, decide_eq_false d, Bool.or_false, fr3.fi 185 (by decide)]
            exact hM c c1 c2
        obtain ⟨a5, e5, fr5, hT5, h5⟩ := takeS_p hT4 h4 fu (c := 44) (by omega) (by omega)
        have fr5' := (Wm_5 fr3).tt ((Wm_185 fr4).tt (Wm_5 fr5))
        have M5 : MT (m ||| bts x y) a5 := fun c c1 c2 => by rw [fr5.fi 185 (by decide)]; exact M4 c c1 c2
        rw [e]
        unfold b_X12_channels_91
        rw [e4, ch127 fu _ e5]
        by_cases c : so b n t2 = 44
        · rw [if_pos c] at h5 ⊢
          rw [if_pos c]
          obtain ⟨u, x1, x2, x3, x4⟩ := ih G (m ||| bts x y) (t2 + 1) a5 (by omega) (by omega) hT5 h5 M5
          refine ⟨u, x1, fr5'.tt x2, x3, ?_⟩
          cases hq : pChs b n g (m ||| bts x y) (t2 + 1) with
          | inl z => rw [hq] at x4; exact x4
          | inr z => rw [hq] at x4; exact DM.mono x4 (by omega)
        · rw [if_neg c] at h5 ⊢
          rw [if_neg c]
          obtain ⟨H, rfl⟩ : ∃ H, G = H + 1 := ⟨G - 1, by omega⟩
          exact ⟨a5, ch23_0 fu H, fr5', hT5, h5, M5⟩
      by_cases c : so b n (t + 1) = 45
      · rw [if_pos c] at e2 h2 ⊢
        obtain ⟨k5, k4, k6, k7, k8, k9, k10, k11, k12⟩ := h2.rd
        obtain ⟨y, a3, e3, l3, fr3, hT3, co3⟩ := num_p hT2 h2 fu (lo := 1) (hi := 64) (by omega) (by omega)
        -- dead behind the second number
        have dead : ∀ f p a4, Fr W5 st a4 → Top a4 → DM b n T f p (T - t - 1) a4 → b_X12_channels_23_b fu (b_X12_channels_23 fu G) 153 (nI 1) st = b_X12_channels_91 fu (b_X12_channels_23 fu G) 153 (nI x) (nI y) a4 → ∃ u, b_X12_channels_23_b fu (b_X12_channels_23 fu G) 153 (nI 1) st = b_X12_channels_137 fu 153 u ∧ Fr Wm st u ∧ Top u ∧ DM b n T f p (T - t - 1) u := fun f p a4 fr4 hT4 h4 e => by
          obtain ⟨a5, e5, fr5, -⟩ := ch94 (fu := fu) (b_X12_channels_23 fu G) l3 fu x a4 hT4 l1 (by omega) (by omega)
          have hT5 := top_185 hT4 fr5
          have h5 := h4.same (rf_185 fr5)
          obtain ⟨r6, a6, e6, l6, l6', fr6, hT6, h6⟩ := takeS_D hT5 h5 fu (c := 44) (by omega) (by omega)
          have h6' : DM b n T f p (T - t - 1) a6 := h6.mono (by by_cases c : r6 = 1 <;> simp [c])
          obtain ⟨u, x1, x2, x3, x4⟩ := ch23_D (fu := fu) (by omega) G (T - t - 1) r6 a6 l6 (by omega) hT6 h6'
          refine ⟨u, ?_, ((Wm_5 fr4).tt ((Wm_185 fr5).tt (Wm_5 fr6))).tt x2, x3, x4⟩
          rw [e]
          unfold b_X12_channels_91
          rw [e5, ch127 fu _ e6]
          exact x1
        have fr3' := (fr1.tt fr2).tt fr3
        cases hp2 : pNum b n 1 64 (t + 1 + 1) with
        | inr e' =>
          rw [hp2] at co3
          have h3 : DM b n T e'.1 e'.2 (T - (t + 1 + 1) - 1) a3 := co3
          have pq := (pNum_b hp2).1
          have fq := (pNum_b hp2).2
          have e9 : pNum b n x 64 (t + 1 + 1) = .inr e' := by
            unfold pNum at hp2 ⊢
            by_cases s2 : so b n (t + 1 + 1) = 2
            · rw [if_pos s2] at hp2 ⊢
              by_cases r : 1 ≤ nvt b n (t + 1 + 1) ∧ nvt b n (t + 1 + 1) ≤ 64
              · rw [if_pos r] at hp2; cases hp2
              · rw [if_neg r] at hp2
                rw [if_neg (by omega)]; exact hp2
            · rw [if_neg s2] at hp2 ⊢; exact hp2
          rw [e9]
          have h3' := h3.mono (show T - (t + 1 + 1) - 1 ≤ T - t - 1 by omega)
          obtain ⟨t3, s3, g5, g4, g6, g7, g8, g9, g10, g11, g12, g13, -⟩ := h3.see
          refine dead e'.1 e'.2 a3 fr3' hT3 h3' ?_
          by_cases s31 : s3 = 1
          · subst s31
            have hT := hT2
            clear ih h h1 h2 h3 h3' rest dead un ep co3 hM
            simp (disch := first | decide | omega) [isb, ck_tt, NP, NF, NC, NB, NS, GS, kdR, tpR hT, b_X12_channels_23_b, hs, e1, e2, k5, k7, e3, g9]
          · have s30 : s3 = 0 := by omega
            subst s30
            by_cases c2 : x ≤ y
            · have hT := hT2
              clear ih h h1 h2 h3 h3' rest dead un ep co3 hM
              simp (disch := first | decide | omega) [isb, ck_tt, NP, NF, NC, NB, NS, GS, kdR, tpR hT, b_X12_channels_23_b, hs, e1, e2, k5, k7, e3, g9]
            · have tl := tell_D hT3 h3 fu (k := 2) (q := pl b n (t + 1 + 1)) (by omega) (by omega) (pl_b b n _).2 (Or.inr ⟨pq, fq.2⟩)
              have hT := hT2
              clear ih h h1 h2 h3 h3' rest dead un ep co3 hM
              simp (disch := first | decide | omega) [isb, ck_tt, NP, NF, NC, NB, NS, GS, kdR, tpR hT, b_X12_channels_23_b, hs, e1, e2, k5, k7, e3, g9, tl]
        | inl w =>
          obtain ⟨w, t2⟩ := w
          rw [hp2] at co3
          obtain ⟨h3, hw⟩ := co3
          have hw : y = w := hw
          subst hw
          have h3 : RS b n T t2 a3 := h3
          obtain ⟨p1, p2, p3, p4, p5⟩ := pNum_i hp2
          subst p5
          have g9 := h3.2.2.2.2.2.2.2.1
          by_cases c2 : x ≤ y
          · have e9 : pNum b n x 64 (t + 1 + 1) = .inl (y, t + 1 + 1 + 1) := by
              unfold pNum
              rw [if_pos p1, if_pos (by omega), p2]
            rw [e9, pb_i]
            refine rest y _ a3 c2 p4 (by omega) fr3' hT3 h3 ?_
            have hT := hT2
            clear ih h h1 h2 h3 rest dead un ep hM
            simp (disch := first | decide | omega) [isb, ck_tt, NP, NF, NC, NB, NS, GS, kdR, tpR hT, b_X12_channels_23_b, hs, e1, e2, k5, k7, e3, g9]
          · have e9 : pNum b n x 64 (t + 1 + 1) = .inr (2, pl b n (t + 1 + 1)) := by
              unfold pNum
              rw [if_pos p1, if_neg (by omega)]
            rw [e9]
            obtain ⟨a4, e4, fr4, hT4, h4⟩ := tell_S hT3 h3 fu (k := 2) (q := pl b n (t + 1 + 1)) (by omega) (by omega) (pl_s (by omega))
            refine dead 2 (pl b n (t + 1 + 1)) a4 (fr3'.tt fr4) hT4 (h4.mono (by omega)) ?_
            have hT := hT2
            clear ih h h1 h2 h3 h4 rest dead un ep hM
            simp (disch := first | decide | omega) [isb, ck_tt, NP, NF, NC, NB, NS, GS, kdR, tpR hT, b_X12_channels_23_b, hs, e1, e2, k5, k7, e3, g9, e4]
      · rw [if_neg c] at e2 h2 ⊢
        rw [pb_i]
        refine rest x (t + 1) a2 (Nat.le_refl _) q4 (Nat.le_refl _) (fr1.tt fr2) hT2 h2 ?_
        have hT := hT2
        clear ih h h1 h2 rest un ep hM
        simp (disch := first | decide | omega) [isb, ck_tt, NP, NF, NC, NB, NS, GS, kdR, tpR hT, b_X12_channels_23_b, hs, e1, e2]
/-- named and row: what is meant -/
theorem ch155 {fu : Nat} (v : Int32) : ∀ (F x : Nat) (s : St), Top s → x ≤ 65 → 65 < F + x → 1 ≤ x → ∃ u, b_X12_channels_155 fu F 153 v (nI x) s = some u ∧ Fr [(183, none), (184, none)] s u ∧ (∀ c, x ≤ c → c ≤ 64 → gI u 184 c = (if gI s 185 c = nI 0 then gI s 184 c else nI 1) ∧ gI u 183 c = (if gI s 185 c = nI 0 then gI s 183 c else v)) ∧ ∀ c, c < x → gI u 184 c = gI s 184 c ∧ gI u 183 c = gI s 183 c := by
  intro F
  induction F with
  | zero => intro x s hT hx hF; omega
  | succ F ih =>
    intro x s hT hx hF x1
    have un : b_X12_channels_155 fu (F + 1) 153 v (nI x) s = b_X12_channels_155_b fu (b_X12_channels_155 fu F) 153 v (nI x) s := rfl
    rw [un]
    by_cases c1 : x = 65
    · subst c1
      refine ⟨s, ?_, Fr.rf, fun c a d => by omega, fun c _ => ⟨rfl, rfl⟩⟩
      clear ih un
      simp (disch := first | decide | omega) [isb, ck_tt, NP, NF, NC, NB, NS, GS, kdR, tpR hT, b_X12_channels_155_b]
    · by_cases c2 : gI s 185 x = nI 0
      · obtain ⟨u, e, fr, v1, v2⟩ := ih (x + 1) s hT (by omega) (by omega) (by omega)
        refine ⟨u, ?_, fr, fun c a d => ?_, fun c a => v2 c (by omega)⟩
        · rw [← e]
          clear ih un e fr v1 v2
          simp (disch := first | decide | omega) [isb, ck_tt, NP, NF, NC, NB, NS, GS, kdR, tpR hT, b_X12_channels_155_b, b_X12_channels_184, c2]
        · by_cases e : c = x
          · subst e
            rw [if_pos c2, if_pos c2]; exact v2 c (by omega)
          · exact v1 c (by omega) d
      · obtain ⟨u, e, fr, v1, v2⟩ := ih (x + 1) (sI (sI s 184 x (nI 1)) 183 x v) (hT.r rfl) (by omega) (by omega) (by omega)
        have r5 : ∀ c, gI (sI (sI s 184 x (nI 1)) 183 x v) 185 c = gI s 185 c := fun c => by rw [gI_sI_n _ _ _ (by decide), gI_sI_n _ _ _ (by decide)]
        have r4 : ∀ c, gI (sI (sI s 184 x (nI 1)) 183 x v) 184 c = if c = x then nI 1 else gI s 184 c := fun c => by rw [gI_sI_n _ _ _ (by decide), gI_sI]; simp
        have r3 : ∀ c, gI (sI (sI s 184 x (nI 1)) 183 x v) 183 c = if c = x then v else gI s 183 c := fun c => by rw [gI_sI, gI_sI_n _ _ _ (by decide)]; simp
        have f1 : Fr [(183, none), (184, none)] s (sI (sI s 184 x (nI 1)) 183 x v) := ((Fr.ia s 184 x (nI 1)).tr (Fr.ia _ 183 x v)).wd (by decide)
        refine ⟨u, ?_, f1.tt fr, fun c a d => ?_, fun c a => ?_⟩
        · rw [← e]
          clear ih un e fr v1 v2 f1 r3 r4 r5
          simp (disch := first | decide | omega) [isb, ck_tt, NP, NF, NC, NB, NS, GS, kdR, tpR hT, b_X12_channels_155_b, b_X12_channels_184, c2]
        · by_cases e : c = x
          · subst e
            rw [if_neg c2, if_neg c2, (v2 c (by omega)).1, (v2 c (by omega)).2, r4, r3, if_pos rfl, if_pos rfl]
            exact ⟨rfl, rfl⟩
          · have := v1 c (by omega) d
            rw [r5, r4, r3, if_neg e, if_neg e] at this
            exact this
        · rw [(v2 c (by omega)).1, (v2 c (by omega)).2, r4, r3, if_neg (by omega), if_neg (by omega)]
          exact ⟨rfl, rfl⟩
theorem ch2 {fu : Nat} : ∀ (F x : Nat) (s : St), Top s → x ≤ 65 → 65 < F + x → (∀ c, c < x → gI s 185 c = nI 0) → ∃ u, b_X12_channels_2 fu F 153 (nI x) s = b_X12_channels_23 fu fu 153 (nI 1) u ∧ Fr [(185, none)] s u ∧ Top u ∧ MT 0 u := by
  intro F
  induction F with
  | zero => intro x s hT hx hF; omega
  | succ F ih =>
    intro x s hT hx hF hz
    have un : b_X12_channels_2 fu (F + 1) 153 (nI x) s = b_X12_channels_2_b fu (b_X12_channels_2 fu F) 153 (nI x) s := rfl
    rw [un]
    by_cases c1 : x = 65
    · subst c1
      refine ⟨s, ?_, Fr.rf, hT, fun c a d => ?_⟩
      · clear ih un hz
        simp (disch := first | decide | omega) [isb, ck_tt, NP, NF, NC, NB, NS, GS, kdR, tpR hT, b_X12_channels_2_b]
      · rw [hz c (by omega), Nat.zero_testBit]; rfl
    · obtain ⟨u, e, fr, hTu, v⟩ := ih (x + 1) (sI s 185 x (nI 0)) (hT.r rfl) (by omega) (by omega) (fun c hc => by
        rw [gI_sI]
        by_cases e : c = x
        · rw [if_pos ⟨rfl, e⟩]
        · rw [if_neg (by omega)]; exact hz c (by omega))
      refine ⟨u, ?_, (Fr.ia s 185 x (nI 0)).tt fr, hTu, v⟩
      rw [← e]
      clear ih un e fr v hz
      simp (disch := first | decide | omega) [isb, ck_tt, NP, NF, NC, NB, NS, GS, kdR, tpR hT, b_X12_channels_2_b]
noncomputable def pCh (b : BY) (n t : Nat) : PR (Nat × Nat) := pb (pChs b n 4001 0 t) fun m t1 => pb (pTl b n 0 t1) fun v t2 => .inl ((v, m), t2)
theorem Wc_34 {a b : St} (h : Fr [(183, none), (184, none)] a b) : Fr Wc a b := h.sub (by simp [Wc])
theorem rf_34 {a b : St} (h : Fr [(183, none), (184, none)] a b) : Same S_rf a b := h.same (by decide)
theorem ch137_D {st : St} (hT : Top st) {b : BY} {n T f p M : Nat} (h : DM b n T f p M st) {fu : Nat} (hf : 100 ≤ fu) : ∃ u, b_X12_channels_137 fu 153 st = some u ∧ Fr Wc st u ∧ Top u ∧ DM b n T f p M u := by
  obtain ⟨a1, e1, fr1, hT1, h1⟩ := needW_D hT h hf (w := 15) (by omega) (by omega)
  obtain ⟨v, a2, e2, l2, fr2, hT2, h2⟩ := num_D hT1 h1 fu (lo := 0) (hi := 255) (by omega) (by omega)
  obtain ⟨u, e3, fr3, -⟩ := ch155 (fu := fu) (nI v) fu 1 a2 hT2 (by omega) (by omega) (by omega)
  refine ⟨u, ?_, (Wc_5 (fr1.tt fr2)).tt (Wc_34 fr3), top_34 hT2 fr3, (h2.mono (by omega)).same (rf_34 fr3)⟩
  rw [← e3]
  clear h h1 h2 e3 fr3
  simp (disch := first | decide | omega) [isb, ck_tt, NP, NF, NC, NB, NS, GS, kdR, tpR hT, b_X12_channels_137, e1, e2]
theorem channels_D {st : St} (hT : Top st) {b : BY} {n T f p M : Nat} (h : DM b n T f p M st) {fu : Nat} (hf : 9000 ≤ fu) (hM : M ≤ 4000) : ∃ u, f_X12_channels fu 153 st = some u ∧ Fr Wc st u ∧ Top u ∧ DM b n T f p M u := by
  obtain ⟨a1, e1, fr1, hT1, -⟩ := ch2 (fu := fu) fu 0 st hT (by omega) (by omega) (fun c hc => by omega)
  obtain ⟨a2, e2, fr2, hT2, h2⟩ := ch23_D (b := b) (n := n) (fu := fu) (by omega) fu M 1 a1 (by omega) (by omega) hT1 (h.same (rf_185 fr1))
  obtain ⟨u, e3, fr3, hT3, h3⟩ := ch137_D hT2 h2 (fu := fu) (by omega)
  exact ⟨u, by rw [← e3, ← e2, ← e1]; rfl, (Wc_185 fr1).tt ((Wc_m fr2).tt fr3), hT3, h3⟩
set_option maxHeartbeats 8000000 in
theorem channels_p {st : St} (hT : Top st) {b : BY} {n T t : Nat} (h : RS b n T t st) {fu : Nat} (hf : 9000 ≤ fu) : ∃ u, f_X12_channels fu 153 st = some u ∧ Fr Wc st u ∧ Top u ∧ RO b n T (T - t - 1) (pCh b n t) (fun x => ∀ c, 1 ≤ c → c ≤ 64 → gI u 184 c = (if x.2.testBit (c - 1) then nI 1 else gI st 184 c) ∧ gI u 183 c = (if x.2.testBit (c - 1) then nI x.1 else gI st 183 c)) u := by
  have n4 := h.1.2.2.2.2.2
  obtain ⟨a1, e1, fr1, hT1, M1⟩ := ch2 (fu := fu) fu 0 st hT (by omega) (by omega) (fun c hc => by omega)
  have h1 : RS b n T t a1 := RfA.same h (rf_185 fr1)
  obtain ⟨a2, e2, fr2, hT2, co2⟩ := ch23_p (b := b) (n := n) hf 4001 fu 0 t a1 (by omega) (by omega) hT1 h1 M1
  have hd : ∀ u, b_X12_channels_137 fu 153 a2 = some u → f_X12_channels fu 153 st = some u := fun u e => by rw [← e, ← e2, ← e1]; rfl
  have fr2m : Fr Wm st a2 := (Wm_185 fr1).tt fr2
  have fr2' : Fr Wc st a2 := Wc_m fr2m
  unfold pCh
  cases hp : pChs b n 4001 0 t with
  | inr e' =>
    rw [hp] at co2
    obtain ⟨u, e3, fr3, hT3, h3⟩ := ch137_D hT2 co2 (fu := fu) (by omega)
    exact ⟨u, hd u e3, fr2'.tt fr3, hT3, h3⟩
  | inl y =>
    obtain ⟨m, t1⟩ := y
    rw [hp] at co2
    obtain ⟨h2, M2⟩ := co2
    have h2 : RS b n T t1 a2 := h2
    have M2 : MT m a2 := M2
    have tt := pChs_i hp
    rw [pb_i]
    have et : pTl b n 0 t1 = pb (pWd b n 15 t1) fun _ t2 => pNum b n 0 255 t2 := rfl
    rw [et]
    obtain ⟨a3, e3, fr3, hT3, co3⟩ := needW_q hT2 h2 (fu := fu) (by omega) (w := 15) (by omega) (by omega)
    cases hp2 : pWd b n 15 t1 with
    | inr e' =>
      rw [hp2] at co3
      have h3 : DM b n T e'.1 e'.2 (T - t1 - 1) a3 := co3
      obtain ⟨v, a4, e4, l4, fr4, hT4, h4⟩ := num_D hT3 h3 fu (lo := 0) (hi := 255) (by omega) (by omega)
      obtain ⟨u, e5, fr5, -⟩ := ch155 (fu := fu) (nI v) fu 1 a4 hT4 (by omega) (by omega) (by omega)
      refine ⟨u, hd u ?_, fr2'.tt ((Wc_5 (fr3.tt fr4)).tt (Wc_34 fr5)), top_34 hT4 fr5, (h4.mono (by omega)).same (rf_34 fr5)⟩
      rw [← e5]
      clear h h1 h2 h3 h4 e5 fr5 M1 M2 hd co3
      simp (disch := first | decide | omega) [isb, ck_tt, NP, NF, NC, NB, NS, GS, kdR, tpR hT, b_X12_channels_137, e3, e4]
    | inl z =>
      obtain ⟨z, t2⟩ := z
      rw [hp2] at co3
      have h3 : RS b n T t2 a3 := co3.1
      have := (pWd_i hp2).2
      rw [pb_i]
      obtain ⟨v, a4, e4, l4, fr4, hT4, co4⟩ := num_p hT3 h3 fu (lo := 0) (hi := 255) (by omega) (by omega)
      obtain ⟨u, e5, fr5, v1, -⟩ := ch155 (fu := fu) (nI v) fu 1 a4 hT4 (by omega) (by omega) (by omega)
      have run : b_X12_channels_137 fu 153 a2 = some u := by
        rw [← e5]
        clear h h1 h2 h3 e5 fr5 v1 M1 M2 hd co3 co4
        simp (disch := first | decide | omega) [isb, ck_tt, NP, NF, NC, NB, NS, GS, kdR, tpR hT, b_X12_channels_137, e3, e4]
      refine ⟨u, hd u run, fr2'.tt ((Wc_5 (fr3.tt fr4)).tt (Wc_34 fr5)), top_34 hT4 fr5, ?_⟩
      cases hp3 : pNum b n 0 255 t2 with
      | inr e' =>
        rw [hp3] at co4
        exact DM.same (DM.mono co4 (by omega)) (rf_34 fr5)
      | inl w =>
        obtain ⟨w, t3⟩ := w
        rw [hp3] at co4
        obtain ⟨h4, hw⟩ := co4
        have hw : v = w := hw
        subst hw
        refine ⟨RfA.same h4 (rf_34 fr5), fun c c1 c2 => ?_⟩
        obtain ⟨w1, w2⟩ := v1 c c1 c2
        have f34 : Fr W5 a2 a4 := fr3.tt fr4
        have m5 : gI a4 185 c = nI (m.testBit (c - 1)).toNat := by rw [f34.fi 185 (by decide)]; exact M2 c c1 c2
        have i4 : gI a4 184 c = gI st 184 c := by rw [f34.fi 184 (by decide), fr2m.fi 184 (by decide)]
        have i3 : gI a4 183 c = gI st 183 c := by rw [f34.fi 183 (by decide), fr2m.fi 183 (by decide)]
        rw [w1, w2, m5, i4, i3]
        show (if nI (m.testBit (c - 1)).toNat = nI 0 then gI st 184 c else nI 1) = (if m.testBit (c - 1) then nI 1 else gI st 184 c) ∧ (if nI (m.testBit (c - 1)).toNat = nI 0 then gI st 183 c else nI v) = (if m.testBit (c - 1) then nI v else gI st 183 c)
        cases m.testBit (c - 1)
        · exact ⟨rfl, rfl⟩
        · exact ⟨rfl, rfl⟩
