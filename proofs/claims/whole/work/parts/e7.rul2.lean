/-! PURE: rules, both together -/
theorem k466 {fu : Nat} (m : Int32) {c : Nat} (hc : c ≤ 4000) (s0 : St) : ∀ (F x : Nat) (s : St), Top s → x ≤ c → c < F + x → Fr [(236, none), (237, none)] s0 s → (∀ y, y < x → gI s 236 y = gI s0 241 y ∧ gI s 237 y = gI s0 242 y) → ∃ u, b_X12_rules_466 fu F 153 m (nI c) (nI x) s = some (m, u) ∧ Top u ∧ Fr [(236, none), (237, none)] s0 u ∧ ∀ y, y < c → gI u 236 y = gI s0 241 y ∧ gI u 237 y = gI s0 242 y := by
  intro F
  induction F with
  | zero => intro x s hT hx hF; omega
  | succ F ih =>
    intro x s hT hx hF fr hA
    have un : b_X12_rules_466 fu (F + 1) 153 m (nI c) (nI x) s = b_X12_rules_466_b fu (b_X12_rules_466 fu F) 153 m (nI c) (nI x) s := rfl
    rw [un]
    by_cases c1 : x = c
    · subst c1
      refine ⟨s, ?_, hT, fr, hA⟩
      clear ih un hA
      simp (disch := first | decide | omega) [↓bd_e, isb, ck_tt, NP, NF, NC, NB, NS, GS, kdR, tpR hT, b_X12_rules_466_b]
    · obtain ⟨s1, hs1⟩ : ∃ s1, s1 = sI (sI s 236 x (gI s 241 x)) 237 x (gI s 242 x) := ⟨_, rfl⟩
      have frs : Fr [(236, none), (237, none)] s s1 := by rw [hs1]; exact ((Fr.ia s 236 _ _).tr (Fr.ia _ 237 _ _)).wd (by decide)
      have z6 : ∀ i, gI s1 236 i = if i = x then gI s0 241 x else gI s 236 i := fun i => by rw [hs1, ← fr.fi 241 (by decide)]; simp [gI_sI]
      have z7 : ∀ i, gI s1 237 i = if i = x then gI s0 242 x else gI s 237 i := fun i => by rw [hs1, ← fr.fi 242 (by decide)]; simp [gI_sI]
      obtain ⟨u, q1, q2, q3, q4⟩ := ih (x + 1) s1 (hT.r (by rw [hs1]; rfl)) (by omega) (by omega) (fr.tt frs) (fun y hy => by
        rw [z6, z7]
        by_cases e : y = x
        · subst e; rw [if_pos rfl, if_pos rfl]; exact ⟨rfl, rfl⟩
        · rw [if_neg e, if_neg e]; exact hA y (by omega))
      refine ⟨u, ?_, q2, q3, q4⟩
      rw [← q1, hs1]
      clear ih un hA frs z6 z7 q1 q2 q3 q4
      simp (disch := first | decide | omega) [↓bd_e, isb, ck_tt, NP, NF, NC, NB, NS, GS, kdR, tpR hT, b_X12_rules_466_b]
theorem k401 {fu : Nat} {i : Nat} (hi : i ≤ 20) (x2 : Int32) (s0 : St) : ∀ (F x : Nat) (s : St), Top s → x ≤ i → i < F + x → Fr [(233, none), (234, none), (235, none)] s0 s → (∀ r, r < x → gI s 233 r = gI s0 238 r ∧ gI s 233 (r + 1) = gI s0 238 (r + 1) ∧ gI s 234 r = gI s0 239 r ∧ gI s 235 r = gI s0 240 r) → ∃ u, b_X12_rules_401 fu F 153 (nI i) x2 (nI x) s = b_X12_rules_466 fu fu 153 (nI i) x2 (nI 0) u ∧ Top u ∧ Fr [(233, none), (234, none), (235, none)] s0 u ∧ ∀ r, r < i → gI u 233 r = gI s0 238 r ∧ gI u 233 (r + 1) = gI s0 238 (r + 1) ∧ gI u 234 r = gI s0 239 r ∧ gI u 235 r = gI s0 240 r := by
  intro F
  induction F with
  | zero => intro x s hT hx hF; omega
  | succ F ih =>
    intro x s hT hx hF fr hA
    have un : b_X12_rules_401 fu (F + 1) 153 (nI i) x2 (nI x) s = b_X12_rules_401_b fu (b_X12_rules_401 fu F) 153 (nI i) x2 (nI x) s := rfl
    rw [un]
    by_cases c1 : x = i
    · subst c1
      refine ⟨s, ?_, hT, fr, hA⟩
      clear ih un hA
      simp (disch := first | decide | omega) [↓bd_e, isb, ck_tt, NP, NF, NC, NB, NS, GS, kdR, tpR hT, b_X12_rules_401_b]
    · obtain ⟨s1, hs1⟩ : ∃ s1, s1 = sI (sI (sI (sI s 233 x (gI s 238 x)) 233 (x + 1) (gI s 238 (x + 1))) 234 x (gI s 239 x)) 235 x (gI s 240 x) := ⟨_, rfl⟩
      have frs : Fr [(233, none), (234, none), (235, none)] s s1 := by rw [hs1]; exact ((((Fr.ia s 233 _ _).tr (Fr.ia _ 233 _ _)).tr (Fr.ia _ 234 _ _)).tr (Fr.ia _ 235 _ _)).wd (by decide)
      have z3 : ∀ y, gI s1 233 y = if y = x + 1 then gI s0 238 (x + 1) else if y = x then gI s0 238 x else gI s 233 y := fun y => by rw [hs1, ← fr.fi 238 (by decide)]; simp [gI_sI]
      have z4 : ∀ y, gI s1 234 y = if y = x then gI s0 239 x else gI s 234 y := fun y => by rw [hs1, ← fr.fi 239 (by decide)]; simp [gI_sI]
      have z5 : ∀ y, gI s1 235 y = if y = x then gI s0 240 x else gI s 235 y := fun y => by rw [hs1, ← fr.fi 240 (by decide)]; simp [gI_sI]
      obtain ⟨u, q1, q2, q3, q4⟩ := ih (x + 1) s1 (hT.r (by rw [hs1]; rfl)) (by omega) (by omega) (fr.tt frs) (fun r hr => by
        rw [z3, z3, z4, z5]
        by_cases e : r = x
        · subst e
          rw [if_neg (by omega), if_pos rfl, if_pos rfl, if_pos rfl, if_pos rfl]
          exact ⟨rfl, rfl, rfl, rfl⟩
        · obtain ⟨a1, a2, a3, a4⟩ := hA r (by omega)
          rw [if_neg (by omega), if_neg e, if_neg (by omega), if_neg e, if_neg e]
          refine ⟨a1, ?_, a3, a4⟩
          by_cases e2 : r + 1 = x
          · rw [if_pos e2, e2]
          · rw [if_neg e2]; exact a2)
      refine ⟨u, ?_, q2, q3, q4⟩
      rw [← q1, hs1]
      clear ih un hA frs z3 z4 z5 q1 q2 q3 q4
      simp (disch := first | decide | omega) [↓bd_e, isb, ck_tt, NP, NF, NC, NB, NS, GS, kdR, tpR hT, b_X12_rules_401_b]
theorem ROK_0 : ROK 0 0 D0 := ⟨by omega, rfl, fun r hr => by omega, fun y hy => by omega⟩
def WrB : List PL := [(153, some 1), (153, some 5), (153, some 6), (153, some 7), (153, some 8), (155, none), (156, none), (157, none), (238, none), (239, none), (240, none), (241, none), (242, none)]
def WrO : List PL := WrB ++ [(153, some 94), (233, none), (234, none), (235, none), (236, none), (237, none)]
set_option maxRecDepth 100000 in
theorem rules_r {st : St} (hT : Top st) {b : BY} {n : Nat} (h1 : gI st 153 1 = nI n) (h2 : n ≤ 4000) (h3 : ∀ i, i < n → gI st 154 i = b i) {fu : Nat} (hf : 9000 ≤ fu) : (∀ x t', pRules b n 4001 0 0 D0 0 = .inl (x, t') → ∃ u, f_X12_rules fu 153 st = some (nI x.1, u) ∧ Fr WrO st u ∧ gI u 153 1 = nI 0 ∧ gI u 153 6 = nI 0 ∧ gI u 153 94 = nI x.1 ∧ x.2.1 ≤ 2000 ∧ (∀ r, r < x.1 → gI u 233 r = nI (x.2.2 6 r) ∧ gI u 233 (r + 1) = nI (x.2.2 6 (r + 1)) ∧ gI u 234 r = nI (x.2.2 4 r) ∧ gI u 235 r = nI (x.2.2 5 r)) ∧ ∀ y, y < x.2.1 → gI u 236 y = nI (x.2.2 7 y) ∧ gI u 237 y = nI (x.2.2 8 y)) ∧ (∀ f p, pRules b n 4001 0 0 D0 0 = .inr (f, p) → ∃ u, f_X12_rules fu 153 st = some (-10 - nI p, u) ∧ Fr WrB st u ∧ gI u 153 1 = nI 0 ∧ gI u 153 6 = nI f) := by
  obtain ⟨s1, T, e1, fr1, hT1, hX, z1, z5, z6, z7, z8⟩ := read_r hT h1 h2 h3 (fu := fu) (by omega)
  have R1 : RS b n T 0 s1 := ⟨hX, z5, Nat.zero_le _, z6, by omega, z7, Nat.zero_le _, z8, by omega⟩
  obtain ⟨OK, BAD⟩ := r8_s (b := b) (n := n) (T := T) hf 4001 fu 0 0 0 D0 s1 (by omega) (by omega) (by omega) hT1 R1 ⟨fun r hr => by omega, fun y hy => by omega⟩ ROK_0
  have hd : f_X12_rules fu 153 st = b_X12_rules_8 fu fu 153 (nI 0) (nI 0) s1 := by
    unfold f_X12_rules
    rw [ck_t (show (kd 153).1 = 12 from rfl), e1, cv_s]
    rfl
  have f1 : Fr WrB st s1 := fr1.sub (by simp [WR, WrB])
  rw [hd]
  refine ⟨fun x t' e => ?_, fun f p e => ?_⟩
  · obtain ⟨s2, e2, fr2, hT2, ⟨A1, A2⟩, c2, g6⟩ := OK x t' e
    have RK := pRules_i e ROK_0
    obtain ⟨s3, hs3⟩ : ∃ s3, s3 = sI s2 153 94 (nI x.1) := ⟨_, rfl⟩
    have fr3 : Fr [(153, some 94)] s2 s3 := by rw [hs3]; exact Fr.i _ _ _ _
    have hT3 : Top s3 := hT2.r (by rw [hs3]; rfl)
    have RK1 := RK.1
    obtain ⟨s4, e4, hT4, fr4, v4⟩ := k401 (fu := fu) RK.1 (nI x.2.1) s3 fu 0 s3 hT3 (by omega) (by omega) Fr.rf (fun r hr => by omega)
    obtain ⟨u, e5, hT5, fr5, v5⟩ := k466 (fu := fu) (nI x.1) (c := x.2.1) (by omega) s4 fu 0 s4 hT4 (by omega) (by omega) Fr.rf (fun r hr => by omega)
    refine ⟨u, ?_, (((f1.tr fr2).tr fr3).tr (fr4.tr fr5)).wd (by decide), ?_, ?_, ?_, c2, fun r hr => ?_, fun y hy => ?_⟩
    · rw [e2]
      unfold b_X12_rules_379
      rw [ck_t (show (kd 153).1 = 12 from rfl), g6, if_pos (show nI 0 = 0 from rfl), ck_t (show (kd 153).1 = 12 from rfl), bd_e, ← hs3]
      exact e4.trans e5
    · rw [fr5.ki 153 1 (by decide), fr4.ki 153 1 (by decide), fr3.ki 153 1 (by decide), fr2.ki 153 1 (by decide)]; exact z1
    · rw [fr5.ki 153 6 (by decide), fr4.ki 153 6 (by decide), fr3.ki 153 6 (by decide)]; exact g6
    · rw [fr5.ki 153 94 (by decide), fr4.ki 153 94 (by decide), hs3, gI_sI]; simp
    · obtain ⟨a1, a2, a3, a4⟩ := v4 r hr
      obtain ⟨b1, b2, b3, b4⟩ := A1 r hr
      rw [fr5.fi 233 (by decide), fr5.fi 234 (by decide), fr5.fi 235 (by decide), a1, a2, a3, a4, fr3.fi 238 (by decide), fr3.fi 239 (by decide), fr3.fi 240 (by decide)]
      exact ⟨b3, b4, b1, b2⟩
    · obtain ⟨a1, a2⟩ := v5 y hy
      rw [a1, a2, fr4.fi 241 (by decide), fr4.fi 242 (by decide), fr3.fi 241 (by decide), fr3.fi 242 (by decide)]
      exact A2 y hy
  · obtain ⟨s2, e2, fr2, hT2, g6⟩ := BAD f p e
    exact ⟨s2, e2, f1.tt (fr2.sub (by simp [Wrr, WrB])), by rw [fr2.ki 153 1 (by decide)]; exact z1, g6⟩
def Vru : List PL := [(2, some 1), (2, some 2), (2, some 3), (2, some 4), (2, some 5), (2, some 6), (2, some 7), (2, some 8), (2, some 9), (121, some 0), (121, some 1), (121, some 2), (122, none), (123, none)]
def W_rul : List PL := Vru ++ WrO
set_option maxRecDepth 100000 in
set_option maxHeartbeats 4000000 in
theorem rules_2 {st : St} (hT : Top st) (hX : P_txt st) (hP : P_rul st) (fu : Nat) (hf : 9000 ≤ fu) : Two (f_X11_rules fu 1) (f_X12_rules fu 153) W_rul (fun w => P_txt w ∧ P_rul w) st := by
  obtain ⟨⟨t1, t2, n, t3, t4⟩, tf, hB⟩ := id hX
  obtain ⟨g, h1, h2, h3, h4, h5, h6, h7⟩ := hP
  have hq2 : SR2 g.q := by unfold SR2; omega
  have ho2 : SR2 g.o := by unfold SR2; omega
  have oz : g.o ≠ 0 := by omega
  have qz : g.q ≠ 0 := by omega
  obtain ⟨s1, e1, fr1, hT1, hC1⟩ := open_c hT (b := gI st 3) t4 t3 (fun _ _ => rfl) (fun i _ => hB i) (fu := fu) (by omega) (lim := 4000) (by omega)
  have r1 : ∀ k, gR s1 121 k = gR st 121 k := fun k => by rw [fr1.fr 121 (by decide)]
  obtain ⟨m, s2, e2, fr2, hT2, co⟩ := rr11_p (b := gI st 3) (n := n) (fu := fu) (by omega) hq2 4001 fu 0 0 0 D0 s1 (by omega) (by omega) (by omega) hT1 hC1 (by rw [r1]; exact h2) (fun r hr => by omega) ROK_0
  have f2 : Fr Vru st s2 := (fr1.sub (by simp [WT, Vru])).tt (fr2.sub (by rcases hq2 with e | e <;> rw [e] <;> simp [WS, Vru]))
  have q1 : gR s2 121 1 = g.q := by rw [WS_q fr2 hq2, r1]; exact h2
  have q0 : gR s2 121 0 = g.o := by rw [WS_q fr2 hq2, r1]; exact h1
  have r79 := rr79 hT2 fu q0 q1 oz qz (nI m)
  have rd : ∀ s3, b_X6_read_79 fu 121 2 (nI m) s2 = some s3 → f_X6_read fu 121 2 st = some s3 := fun s3 e => by
    rw [← e, ← e2]
    unfold f_X6_read
    rw [ck_t (show (kd 2).1 = 9 from rfl), show f_X9_open fu 2 4000 st = some s1 from e1, cv_s]
    rfl
  have call : ∀ s3 (r : Int32), f_X6_read fu 121 2 st = some s3 → Top s3 → f_X11_closeText fu 1 (gI s3 121 2) s3 = some (r, sI s3 2 1 (nI 0)) → f_X11_rules fu 1 st = some (r, sI s3 2 1 (nI 0)) := fun s3 r e hT3 ec => by
    clear h7 hC1 co fr1 fr2 f2 hB
    simp (disch := first | decide | omega) [↓bd_e, isb, ck_tt, NP, NF, NC, NB, NS, GS, kdC, tpC hT, f_X11_rules, e, tpC hT3, ec]
  have s3e : gI s2 3 = gI st 3 := f2.fi 3 (by decide)
  have o122 : gI s2 g.o = gI st g.o := by
    rw [fr2.fi g.o (by rcases ho2 with e | e <;> rcases hq2 with e' | e' <;> rw [e, e'] <;> first | decide | (exfalso; omega)), fr1.fi g.o (by rcases ho2 with e | e <;> rw [e] <;> decide)]
  cases hp : pRules (gI st 3) n 4001 0 0 D0 0 with
  | inr e' =>
    obtain ⟨f, p⟩ := e'
    rw [hp] at co
    have hD : TD (gI st 3) n 4000 f p s2 := co
    obtain ⟨dX, d8, d1, d3, d9, dp, -⟩ := hD
    have f0 : ¬ gI s2 2 8 = nI 0 := by rw [d8]; intro e; have := (nI_eq (a := f) (b := 0) (by omega) (by omega)).mp e; omega
    rw [if_neg f0] at r79
    have cl := close_c hT2 fu (gI s2 121 2)
    rw [if_neg f0, d9] at cl
    have fC : Fr [(2, some 1)] s2 (sI s2 2 1 (nI 0)) := Fr.i _ _ _ _
    have u154 : ∀ i, i < n → gI (sI s2 2 1 (nI 0)) 154 i = gI st 3 i := fun i _ => by rw [fC.fi 154 (by decide), f2.fi 154 (by decide), ← t1]
    obtain ⟨-, BAD⟩ := rules_r (hT2.r (u := sI s2 2 1 (nI 0)) rfl) (b := gI st 3) (by rw [fC.ki 153 1 (by decide), f2.ki 153 1 (by decide), ← t2]; exact t4) t3 u154 hf
    obtain ⟨w, w1, w2, w3, w4⟩ := BAD f p hp
    have fw : Fr W_rul st w := ((f2.tr fC).tr w2).wd (by decide)
    refine ⟨-10 - nI p, sI s2 2 1 (nI 0), w, call s2 _ (rd s2 r79) hT2 cl, w1, fw, hX.z ?_ ?_ ?_ w3 ?_, g, ?_, ?_, h3, h4, ?_, ?_, fun i hi => ?_⟩
    · rw [w2.fi 3 (by decide), fC.fi 3 (by decide)]; exact s3e
    · rw [w2.fi 154 (by decide), fC.fi 154 (by decide), f2.fi 154 (by decide)]
    · rw [w2.ki 2 1 (by decide), gI_sI]; simp
    · rw [w2.ki 2 8 (by decide), w4, fC.ki 2 8 (by decide)]; exact d8
    · rw [w2.fr 121 (by decide), fC.fr 121 (by decide)]; exact q0
    · rw [w2.fr 121 (by decide), fC.fr 121 (by decide)]; exact q1
    · rw [w2.ki 121 2 (by decide), fC.ki 121 2 (by decide), fr2.ki 121 2 (by rcases hq2 with e | e <;> rw [e] <;> decide), fr1.ki 121 2 (by decide)]; exact h5
    · rw [w2.ki 153 94 (by decide), fC.ki 153 94 (by decide), f2.ki 153 94 (by decide)]; exact h6
    · have eo : gI w g.o = gI st g.o := by
        rw [w2.fi g.o (by rcases ho2 with e | e <;> rw [e] <;> decide), fC.fi g.o (by rcases ho2 with e | e <;> rw [e] <;> decide)]; exact o122
      have er : ∀ o, 233 ≤ o → o ≤ 237 → gI w o = gI st o := fun o o1 o2 => by
        rw [w2.fi o (by simp [WrB] <;> omega), fC.fi o (by simp <;> omega), f2.fi o (by simp [Vru] <;> omega)]
      unfold RUL
      rw [eo, er 233 (by omega) (by omega), er 234 (by omega) (by omega), er 235 (by omega) (by omega), er 236 (by omega) (by omega), er 237 (by omega) (by omega)]
      exact h7 i hi
  | inl x =>
    obtain ⟨x, t'⟩ := x
    rw [hp] at co
    obtain ⟨hC, hm, hRQ⟩ := co
    have hm : m = x.1 := hm
    have hRQ : RQ g.q x.1 x.2.2 s2 := hRQ
    have hC : TC (gI st 3) n 4000 t' s2 := hC
    have d8 := hC.2.1.1
    have RK := pRules_i hp ROK_0
    rw [if_pos d8] at r79
    obtain ⟨s3, hs3⟩ : ∃ s3, s3 = sI (sR (sR s2 121 0 g.q) 121 1 g.o) 121 2 (nI m) := ⟨_, rfl⟩
    rw [← hs3] at r79
    have f3 : Fr [(121, some 0), (121, some 1), (121, some 2)] s2 s3 := by rw [hs3]; exact (((Fr.r s2 121 0 g.q).tr (Fr.r _ 121 1 g.o)).tr (Fr.i _ 121 2 (nI m))).wd (by decide)
    have hT3 : Top s3 := hT2.fr (f3.same (by decide))
    have cl := close_c hT3 fu (gI s3 121 2)
    rw [f3.ki 2 8 (by decide), if_pos d8] at cl
    have m3 : gI s3 121 2 = nI x.1 := by rw [hs3, gI_sI, hm]; simp
    rw [m3] at cl
    have fC : Fr [(2, some 1)] s3 (sI s3 2 1 (nI 0)) := Fr.i _ _ _ _
    have u154 : ∀ i, i < n → gI (sI s3 2 1 (nI 0)) 154 i = gI st 3 i := fun i _ => by rw [fC.fi 154 (by decide), f3.fi 154 (by decide), f2.fi 154 (by decide), ← t1]
    obtain ⟨OK, -⟩ := rules_r (hT3.r (u := sI s3 2 1 (nI 0)) rfl) (b := gI st 3) (by rw [fC.ki 153 1 (by decide), f3.ki 153 1 (by decide), f2.ki 153 1 (by decide), ← t2]; exact t4) t3 u154 hf
    obtain ⟨w, w1, w2, w3, w4, w5, w6, w7, w8⟩ := OK x t' hp
    have fw : Fr W_rul st w := (((f2.tr f3).tr fC).tr w2).wd (by decide)
    have eq' : gI w g.q = gI s2 g.q := by
      rw [w2.fi g.q (by rcases hq2 with e | e <;> rw [e] <;> decide), fC.fi g.q (by rcases hq2 with e | e <;> rw [e] <;> decide), f3.fi g.q (by rcases hq2 with e | e <;> rw [e] <;> decide)]
    refine ⟨nI x.1, sI s3 2 1 (nI 0), w, call s3 _ (rd s3 r79) hT3 (by rw [m3]; exact cl), w1, fw, hX.z ?_ ?_ ?_ w3 ?_, (g.q, g.o, x.1, x.2.2 0, x.2.2 1, x.2.2 2, x.2.2 3, x.2.2 4, x.2.2 5, x.2.2 6, (fun i => x.2.2 6 (i + 1)), x.2.2 7, x.2.2 8), ?_, ?_, ?_, RK.1, ?_, w5, fun i hi => ?_⟩
    · rw [w2.fi 3 (by decide), fC.fi 3 (by decide), f3.fi 3 (by decide)]; exact s3e
    · rw [w2.fi 154 (by decide), fC.fi 154 (by decide), f3.fi 154 (by decide), f2.fi 154 (by decide)]
    · rw [w2.ki 2 1 (by decide), gI_sI]; simp
    · rw [w2.ki 2 8 (by decide), w4, fC.ki 2 8 (by decide), f3.ki 2 8 (by decide)]; exact d8
    · show gR w 121 0 = g.q
      rw [w2.fr 121 (by decide), fC.fr 121 (by decide), hs3]
      simp [gR_sI, gR_sR]
    · show gR w 121 1 = g.o
      rw [w2.fr 121 (by decide), fC.fr 121 (by decide), hs3]
      simp [gR_sI, gR_sR]
    · show (g.q = 122 ∧ g.o = 123) ∨ (g.q = 123 ∧ g.o = 122)
      omega
    · show gI w 121 2 = nI x.1
      rw [w2.ki 121 2 (by decide), fC.ki 121 2 (by decide)]; exact m3
    · have hi : i < x.1 := hi
      obtain ⟨k1, k2, ⟨k3, k4⟩, k5, k6⟩ := RK.2.2.1 i hi
      obtain ⟨v1, v2, v3, v4⟩ := w7 i hi
      have rq := hRQ i hi
      have hh : hCh (x.2.2 4 i) ≤ 99999 ∧ (x.2.2 4 i = 37 → hCh (x.2.2 4 i) = 200) := by
        unfold hCh
        by_cases c : x.2.2 4 i = 37
        · rw [if_pos c]; exact ⟨by omega, fun _ => rfl⟩
        · rw [if_neg c]; exact ⟨by omega, fun e => absurd e c⟩
      show RUL w g.q i (x.2.2 0 i) (x.2.2 1 i) (x.2.2 2 i) (x.2.2 3 i) (x.2.2 4 i) (x.2.2 5 i) (x.2.2 6 i) (x.2.2 6 (i + 1)) (x.2.2 7) (x.2.2 8)
      unfold RUL
      rw [eq', Nat.mul_comm 6 i]
      unfold isCh at k3
      refine ⟨⟨rq 0 (by omega), rq 1 (by omega), rq 2 (by omega), rq 3 (by omega), rq 4 (by omega), rq 5 (by omega)⟩, ⟨k2.1, k2.2.1, k2.2.2.1, k2.2.2.2, by omega, by omega, fun e => by have := hh.2 e; omega⟩, ⟨v3, v4, v1, v2, k5, by omega⟩, fun c c1 c2 => ?_, k1⟩
      obtain ⟨a1, a2⟩ := w8 c (by omega)
      obtain ⟨b1, b2, b3⟩ := RK.2.2.2 c (by omega)
      exact ⟨a1, a2, b1, b2, b3⟩
