/-! PURE: the text of a list, in the reference: kept, the list as at first -/
def Wk : List PL := [(158, none), (159, none), (160, none), (161, none), (162, none), (163, none), (164, none), (165, none), (166, none), (167, none), (168, none), (169, none), (170, none)]
theorem k126 {fu : Nat} (K : Nat → Int32 → Int32 → St → Option St) {l k : Nat} (hl : l < 4) (hk : k < 60) : ∀ (F x : Nat) (s : St), Top s → 1 ≤ x → x ≤ 65 → 65 < F + x → ∃ u, b_X12_keep_126 fu K F 153 (nI l) (nI k) (nI (l * 60 + k)) (nI x) s = K 153 (nI l) (nI (k + 1)) u ∧ Fr [(167, none)] s u ∧ Top u ∧ (∀ c, x ≤ c → c ≤ 64 → gI u 167 (65 * (l * 60 + k) + c) = gI s 179 (65 * k + c)) ∧ ∀ i, (i < 65 * (l * 60 + k) + x ∨ 65 * (l * 60 + k) + 64 < i) → gI u 167 i = gI s 167 i := by
  intro F
  induction F with
  | zero => intro x s hT h1 hx hF; omega
  | succ F ih =>
    intro x s hT h1 hx hF
    have un : b_X12_keep_126 fu K (F + 1) 153 (nI l) (nI k) (nI (l * 60 + k)) (nI x) s = b_X12_keep_126_b fu K (b_X12_keep_126 fu K F) 153 (nI l) (nI k) (nI (l * 60 + k)) (nI x) s := rfl
    rw [un]
    by_cases c1 : x = 65
    · subst c1
      refine ⟨s, ?_, Fr.rf, hT, fun c a d => by omega, fun i _ => rfl⟩
      clear ih un
      simp (disch := first | decide | omega) [↓bd_e, isb, ck_tt, NP, NF, NC, NB, NS, GS, kdR, tpR hT, b_X12_keep_126_b]
    · obtain ⟨u, r1, r2, r3, r4, r5⟩ := ih (x + 1) (sI s 167 (65 * (l * 60 + k) + x) (gI s 179 (65 * k + x))) (hT.r rfl) (by omega) (by omega) (by omega)
      refine ⟨u, ?_, (Fr.ia s 167 _ _).tt r2, r3, fun c a d => ?_, fun i hi => ?_⟩
      · rw [← r1]
        clear ih un r1 r2 r3 r4 r5
        simp (disch := first | decide | omega) [↓bd_e, isb, ck_tt, NP, NF, NC, NB, NS, GS, kdR, tpR hT, b_X12_keep_126_b]
      · by_cases e : c = x
        · subst e
          rw [r5 _ (by omega), gI_sI, if_pos ⟨rfl, rfl⟩]
        · rw [r4 c (by omega) d, gI_sI_n _ _ _ (by decide)]
      · rw [r5 i (by omega), gI_sI, if_neg (by omega)]
def wK (s : St) (p k : Nat) : St := sI (sI (sI (sI (sI (sI (sI (sI s 159 p (gI s 171 k)) 160 p (gI s 172 k)) 161 p (gI s 173 k)) 162 p (gI s 174 k)) 163 p (gI s 175 k)) 164 p (gI s 176 k)) 165 p (gI s 177 k)) 166 p (gI s 178 k)
theorem wK_fr (s : St) (p k : Nat) : Fr [(159, none), (160, none), (161, none), (162, none), (163, none), (164, none), (165, none), (166, none)] s (wK s p k) := ((((((((Fr.ia s 159 p _).tr (Fr.ia _ 160 p _)).tr (Fr.ia _ 161 p _)).tr (Fr.ia _ 162 p _)).tr (Fr.ia _ 163 p _)).tr (Fr.ia _ 164 p _)).tr (Fr.ia _ 165 p _)).tr (Fr.ia _ 166 p _)).wd (by decide)
theorem wK_r (s : St) (p k : Nat) {j : Nat} (hj : j ≤ 7) (i : Nat) : gI (wK s p k) (159 + j) i = if i = p then gI s (171 + j) k else gI s (159 + j) i := by
  have h8 : j = 0 ∨ j = 1 ∨ j = 2 ∨ j = 3 ∨ j = 4 ∨ j = 5 ∨ j = 6 ∨ j = 7 := by omega
  rcases h8 with rfl | rfl | rfl | rfl | rfl | rfl | rfl | rfl <;> simp [wK, gI_sI]
theorem k12 {fu : Nat} (hf : 100 ≤ fu) {l c : Nat} (hl : l < 4) (hc : c ≤ 60) (s0 : St) : ∀ (F k : Nat) (s : St), Top s → k ≤ c → c < F + k → gI s 153 34 = nI c → Fr Wk s0 s → (∀ i, i < k → (∀ j, j ≤ 7 → gI s (159 + j) (l * 60 + i) = gI s0 (171 + j) i) ∧ ∀ x, 1 ≤ x → x ≤ 64 → gI s 167 (65 * (l * 60 + i) + x) = gI s0 179 (65 * i + x)) → (∀ j, j ≤ 7 → ∀ i, (i < l * 60 ∨ l * 60 + 60 ≤ i) → gI s (159 + j) i = gI s0 (159 + j) i) → (∀ i, (i < 65 * (l * 60) ∨ 65 * (l * 60 + 60) ≤ i) → gI s 167 i = gI s0 167 i) → ∃ u, b_X12_keep_12 fu F 153 (nI l) (nI k) s = b_X12_keep_171 fu fu 153 (nI l) (nI 0) u ∧ Top u ∧ Fr Wk s0 u ∧ Fr [(159, none), (160, none), (161, none), (162, none), (163, none), (164, none), (165, none), (166, none), (167, none)] s u ∧ (∀ i, i < c → (∀ j, j ≤ 7 → gI u (159 + j) (l * 60 + i) = gI s0 (171 + j) i) ∧ ∀ x, 1 ≤ x → x ≤ 64 → gI u 167 (65 * (l * 60 + i) + x) = gI s0 179 (65 * i + x)) ∧ (∀ j, j ≤ 7 → ∀ i, (i < l * 60 ∨ l * 60 + 60 ≤ i) → gI u (159 + j) i = gI s0 (159 + j) i) ∧ ∀ i, (i < 65 * (l * 60) ∨ 65 * (l * 60 + 60) ≤ i) → gI u 167 i = gI s0 167 i := by
  intro F
  induction F with
  | zero => intro k s hT hk hF; omega
  | succ F ih =>
    intro k s hT hk hF h34 fr hA hB hC
    have un : b_X12_keep_12 fu (F + 1) 153 (nI l) (nI k) s = b_X12_keep_12_b fu (b_X12_keep_12 fu F) 153 (nI l) (nI k) s := rfl
    rw [un]
    by_cases c1 : k = c
    · subst c1
      refine ⟨s, ?_, hT, fr, Fr.rf, hA, hB, hC⟩
      clear ih un hA hB hC
      simp (disch := first | decide | omega) [↓bd_e, isb, ck_tt, NP, NF, NC, NB, NS, GS, kdR, tpR hT, b_X12_keep_12_b, h34]
    · have frw := wK_fr s (l * 60 + k) k
      have hTw : Top (wK s (l * 60 + k) k) := hT.r rfl
      obtain ⟨s1, e1, fr1, hT1, v1, v2⟩ := k126 (fu := fu) (b_X12_keep_12 fu F) hl (show k < 60 by omega) fu 1 (wK s (l * 60 + k) k) hTw (by omega) (by omega) (by omega)
      have frs : Fr [(159, none), (160, none), (161, none), (162, none), (163, none), (164, none), (165, none), (166, none), (167, none)] s s1 := (frw.tr fr1).wd (by decide)
      have fr01 : Fr Wk s0 s1 := fr.tt (frs.sub (by simp [Wk]))
      have rd : ∀ j, j ≤ 7 → ∀ i, gI s1 (159 + j) i = if i = l * 60 + k then gI s0 (171 + j) k else gI s (159 + j) i := fun j hj i => by
        rw [fr1.fi (159 + j) (by simp <;> omega), wK_r s _ _ hj, fr.fi (171 + j) (by simp [Wk] <;> omega)]
      have r7 : ∀ x, 1 ≤ x → x ≤ 64 → gI s1 167 (65 * (l * 60 + k) + x) = gI s0 179 (65 * k + x) := fun x x1 x2 => by
        rw [v1 x x1 x2, frw.fi 179 (by decide), fr.fi 179 (by decide)]
      have r7' : ∀ i, (i < 65 * (l * 60 + k) + 1 ∨ 65 * (l * 60 + k) + 64 < i) → gI s1 167 i = gI s 167 i := fun i hi => by
        rw [v2 i hi, frw.fi 167 (by decide)]
      obtain ⟨u, q1, q2, q3, q4, q5, q6, q7⟩ := ih (k + 1) s1 hT1 (by omega) (by omega) (by rw [frs.ki 153 34 (by decide)]; exact h34) fr01 (fun i hi => by
          by_cases e : i = k
          · subst e
            refine ⟨fun j hj => by rw [rd j hj, if_pos rfl], r7⟩
          · obtain ⟨a1, a2⟩ := hA i (by omega)
            refine ⟨fun j hj => by rw [rd j hj, if_neg (by omega)]; exact a1 j hj, fun x x1 x2 => ?_⟩
            rw [r7' _ (by omega)]; exact a2 x x1 x2) (fun j hj i hi => by
          rw [rd j hj, if_neg (by omega)]; exact hB j hj i hi) (fun i hi => by rw [r7' _ (by omega)]; exact hC i hi)
      refine ⟨u, ?_, q2, q3, frs.tt q4, q5, q6, q7⟩
      rw [← q1, ← e1]
      unfold wK
      clear ih un hA hB hC frw hTw e1 fr1 v1 v2 frs fr01 rd r7 r7' q1 q2 q3 q4 q5 q6 q7
      simp (disch := first | decide | omega) [↓bd_e, isb, ck_tt, NP, NF, NC, NB, NS, GS, kdR, tpR hT, b_X12_keep_12_b, h34]
theorem k171 {fu : Nat} {l a : Nat} (hl : l < 4) (ha : a ≤ 300) (s0 : St) : ∀ (F k : Nat) (s : St), Top s → k ≤ a → a < F + k → gI s 153 35 = nI a → Fr [(168, none), (169, none), (170, none)] s0 s → (∀ i, i < k → gI s 168 (l * 300 + i) = gI s0 180 i ∧ gI s 169 (l * 300 + i) = gI s0 181 i ∧ gI s 170 (l * 300 + i) = gI s0 182 i) → (∀ i, (i < l * 300 ∨ l * 300 + 300 ≤ i) → gI s 168 i = gI s0 168 i ∧ gI s 169 i = gI s0 169 i ∧ gI s 170 i = gI s0 170 i) → ∃ u, b_X12_keep_171 fu F 153 (nI l) (nI k) s = some u ∧ Top u ∧ Fr [(168, none), (169, none), (170, none)] s0 u ∧ (∀ i, i < a → gI u 168 (l * 300 + i) = gI s0 180 i ∧ gI u 169 (l * 300 + i) = gI s0 181 i ∧ gI u 170 (l * 300 + i) = gI s0 182 i) ∧ ∀ i, (i < l * 300 ∨ l * 300 + 300 ≤ i) → gI u 168 i = gI s0 168 i ∧ gI u 169 i = gI s0 169 i ∧ gI u 170 i = gI s0 170 i := by
  intro F
  induction F with
  | zero => intro k s hT hk hF; omega
  | succ F ih =>
    intro k s hT hk hF h35 fr hA hB
    have un : b_X12_keep_171 fu (F + 1) 153 (nI l) (nI k) s = b_X12_keep_171_b fu (b_X12_keep_171 fu F) 153 (nI l) (nI k) s := rfl
    rw [un]
    by_cases c1 : k = a
    · subst c1
      refine ⟨s, ?_, hT, fr, hA, hB⟩
      clear ih un hA hB
      simp (disch := first | decide | omega) [↓bd_e, isb, ck_tt, NP, NF, NC, NB, NS, GS, kdR, tpR hT, b_X12_keep_171_b, h35]
    · obtain ⟨s1, hs1⟩ : ∃ s1, s1 = sI (sI (sI s 168 (l * 300 + k) (gI s 180 k)) 169 (l * 300 + k) (gI s 181 k)) 170 (l * 300 + k) (gI s 182 k) := ⟨_, rfl⟩
      have frs : Fr [(168, none), (169, none), (170, none)] s s1 := by rw [hs1]; exact (((Fr.ia s 168 _ _).tr (Fr.ia _ 169 _ _)).tr (Fr.ia _ 170 _ _)).wd (by decide)
      have z8 : ∀ i, gI s1 168 i = if i = l * 300 + k then gI s0 180 k else gI s 168 i := fun i => by rw [hs1, ← fr.fi 180 (by decide)]; simp [gI_sI]
      have z9 : ∀ i, gI s1 169 i = if i = l * 300 + k then gI s0 181 k else gI s 169 i := fun i => by rw [hs1, ← fr.fi 181 (by decide)]; simp [gI_sI]
      have z0 : ∀ i, gI s1 170 i = if i = l * 300 + k then gI s0 182 k else gI s 170 i := fun i => by rw [hs1, ← fr.fi 182 (by decide)]; simp [gI_sI]
      obtain ⟨u, q1, q2, q3, q4, q5⟩ := ih (k + 1) s1 (hT.r (by rw [hs1]; rfl)) (by omega) (by omega) (by rw [frs.ki 153 35 (by decide)]; exact h35) (fr.tt frs) (fun i hi => by
          rw [z8, z9, z0]
          by_cases e : i = k
          · subst e; rw [if_pos rfl, if_pos rfl, if_pos rfl]; exact ⟨rfl, rfl, rfl⟩
          · rw [if_neg (by omega), if_neg (by omega), if_neg (by omega)]; exact hA i (by omega)) (fun i hi => by
          rw [z8, z9, z0, if_neg (by omega), if_neg (by omega), if_neg (by omega)]; exact hB i hi)
      refine ⟨u, ?_, q2, q3, q4, q5⟩
      rw [← q1, hs1]
      clear ih un hA hB frs z8 z9 z0 q1 q2 q3 q4 q5
      simp (disch := first | decide | omega) [↓bd_e, isb, ck_tt, NP, NF, NC, NB, NS, GS, kdR, tpR hT, b_X12_keep_171_b, h35]
/-- what the reference holds of list l -/
def RK (l c a : Nat) (D : LD) (st : St) : Prop := gI st 158 l = nI c ∧ (∀ i, i < c → (∀ j, j ≤ 5 → gI st (159 + j) (l * 60 + i) = nI (D j i)) ∧ gI st 165 (l * 60 + i) = nI (D 7 (i + 1) - D 7 i) ∧ gI st 166 (l * 60 + i) = nI (D 7 i) ∧ ∀ ch, ch < 64 → gI st 167 (65 * (l * 60 + i) + (ch + 1)) = nI (trk D i ch)) ∧ ∀ i, i < a → gI st 168 (l * 300 + i) = nI (rk (D 8 i)) ∧ gI st 169 (l * 300 + i) = nI (D 9 i) ∧ gI st 170 (l * 300 + i) = nI (if D 8 i = 0 then 0 else D 10 i)
/-- the places of list l in the reference's store are the same -/
def KeepO (l : Nat) (s u : St) : Prop := gI u 158 l = gI s 158 l ∧ (∀ j, j ≤ 7 → ∀ i, i < 60 → gI u (159 + j) (l * 60 + i) = gI s (159 + j) (l * 60 + i)) ∧ (∀ i, i < 3900 → gI u 167 (65 * (l * 60) + i) = gI s 167 (65 * (l * 60) + i)) ∧ ∀ i, i < 300 → gI u 168 (l * 300 + i) = gI s 168 (l * 300 + i) ∧ gI u 169 (l * 300 + i) = gI s 169 (l * 300 + i) ∧ gI u 170 (l * 300 + i) = gI s 170 (l * 300 + i)
theorem RK.o {l c a : Nat} {D : LD} {s u : St} (h : RK l c a D s) (hc : c ≤ 60) (ha : a ≤ 300) (k : KeepO l s u) : RK l c a D u := by
  obtain ⟨h1, h2, h3⟩ := h
  obtain ⟨k1, k2, k3, k4⟩ := k
  refine ⟨by rw [k1]; exact h1, fun i hi => ?_, fun i hi => ?_⟩
  · obtain ⟨a1, a2, a3, a4⟩ := h2 i hi
    refine ⟨fun j hj => by rw [k2 j (by omega) i (by omega)]; exact a1 j hj, ?_, ?_, fun ch hch => ?_⟩
    · rw [k2 6 (by omega) i (by omega)]; exact a2
    · rw [k2 7 (by omega) i (by omega)]; exact a3
    · have := k3 (65 * i + (ch + 1)) (by omega)
      rw [show 65 * (l * 60) + (65 * i + (ch + 1)) = 65 * (l * 60 + i) + (ch + 1) by omega] at this
      rw [this]; exact a4 ch hch
  · obtain ⟨q1, q2, q3⟩ := k4 i (by omega)
    rw [q1, q2, q3]; exact h3 i hi
theorem keep_r {st : St} (hT : Top st) {fu : Nat} (hf : 400 ≤ fu) {l c a : Nat} {D : LD} (hl : l < 4) (hL : LOK c a D) (h34 : gI st 153 34 = nI c) (hR : RRs c a D st) : ∃ u, f_X12_keep fu 153 (nI l) st = some u ∧ Fr Wk st u ∧ Top u ∧ RK l c a D u ∧ ∀ m, m < 4 → m ≠ l → KeepO m st u := by
  obtain ⟨R1, R2, R3, R4, R5⟩ := hR
  have c60 := hL.1
  have a3 := hL.2.1
  obtain ⟨s1, hs1⟩ : ∃ s1, s1 = sI st 158 l (nI c) := ⟨_, rfl⟩
  have fr1 : Fr [(158, none)] st s1 := by rw [hs1]; exact Fr.ia _ _ _ _
  have fr1k : Fr Wk st s1 := fr1.sub (by simp [Wk])
  have hT1 : Top s1 := hT.r (by rw [hs1]; rfl)
  have o1 : ∀ j, j ≤ 7 → gI s1 (159 + j) = gI st (159 + j) := fun j hj => fr1.fi _ (by simp <;> omega)
  obtain ⟨s2, e2, hT2, fr2, fr2', v1, v2, v3⟩ := k12 (fu := fu) (by omega) hl c60 st fu 0 s1 hT1 (by omega) (by omega) (by rw [fr1.ki 153 34 (by decide)]; exact h34) fr1k (fun i hi => by omega) (fun j hj i _ => by rw [o1 j hj]) (fun i _ => by rw [fr1.fi 167 (by decide)])
  obtain ⟨u, e3, hT3, fr3, w1, w2⟩ := k171 (fu := fu) hl a3 s2 fu 0 s2 hT2 (by omega) (by omega) (by rw [fr2.ki 153 35 (by decide)]; exact R1) Fr.rf (fun i hi => by omega) (fun i _ => ⟨rfl, rfl, rfl⟩)
  have fr3k : Fr Wk s2 u := fr3.sub (by simp [Wk])
  have u9 : ∀ j, j ≤ 7 → gI u (159 + j) = gI s2 (159 + j) := fun j hj => fr3.fi _ (by simp <;> omega)
  have s158 : ∀ m, gI u 158 m = if m = l then nI c else gI st 158 m := fun m => by
    rw [fr3.fi 158 (by decide), fr2'.fi 158 (by decide), hs1, gI_sI]; simp
  refine ⟨u, ?_, fr2.tt fr3k, hT3, ⟨by rw [s158, if_pos rfl], fun i hi => ?_, fun i hi => ?_⟩, fun m hm ml => ⟨by rw [s158, if_neg ml], fun j hj i hi => ?_, fun i hi => ?_, fun i hi => ?_⟩⟩
  · rw [← e3, ← e2, hs1]
    clear R2 R3 R4 R5 e2 e3 v1 v2 v3 w1 w2 s158 u9 o1 fr2 fr2' fr3
    simp (disch := first | decide | omega) [↓bd_e, isb, ck_tt, NP, NF, NC, NB, NS, GS, kdR, tpR hT, f_X12_keep, h34]
  · obtain ⟨a1, a2⟩ := v1 i hi
    refine ⟨fun j hj => ?_, ?_, ?_, fun ch hch => ?_⟩
    · rw [u9 j (by omega), a1 j (by omega)]; exact R2 i hi j hj
    · rw [u9 6 (by omega), a1 6 (by omega)]; exact (R4 i hi).2
    · rw [u9 7 (by omega), a1 7 (by omega)]; exact (R4 i hi).1
    · rw [fr3.fi 167 (by decide), a2 (ch + 1) (by omega) (by omega)]; exact R5 i hi ch hch
  · obtain ⟨q1, q2, q3⟩ := w1 i hi
    rw [q1, q2, q3, fr2.fi 180 (by decide), fr2.fi 181 (by decide), fr2.fi 182 (by decide)]
    exact R3 i hi
  · rw [u9 j hj, v2 j hj _ (by omega)]
  · rw [fr3.fi 167 (by decide), v3 _ (by omega)]
  · obtain ⟨q1, q2, q3⟩ := w2 (m * 300 + i) (by omega)
    rw [q1, q2, q3, fr2'.fi 168 (by decide), fr2'.fi 169 (by decide), fr2'.fi 170 (by decide), fr1.fi 168 (by decide), fr1.fi 169 (by decide), fr1.fi 170 (by decide)]
    exact ⟨rfl, rfl, rfl⟩
theorem fr32 {fu : Nat} {l : Nat} (hl : l < 4) (s0 : St) : ∀ (F x : Nat) (s : St), Top s → x ≤ 65 → 65 < F + x → Fr [(190, none), (191, none), (194, none)] s0 s → (∀ i, gI s 190 i = (if 65 * l ≤ i ∧ i < 65 * l + x then nI 0 else gI s0 190 i) ∧ gI s 191 i = (if 65 * l ≤ i ∧ i < 65 * l + x then nI 0 else gI s0 191 i) ∧ gI s 194 i = (if 65 * l ≤ i ∧ i < 65 * l + x then nI 0 else gI s0 194 i)) → ∃ u, b_X12_fresh_32 fu F 153 (nI l) (nI x) s = some u ∧ Top u ∧ Fr [(190, none), (191, none), (194, none)] s0 u ∧ ∀ i, gI u 190 i = (if 65 * l ≤ i ∧ i < 65 * l + 65 then nI 0 else gI s0 190 i) ∧ gI u 191 i = (if 65 * l ≤ i ∧ i < 65 * l + 65 then nI 0 else gI s0 191 i) ∧ gI u 194 i = (if 65 * l ≤ i ∧ i < 65 * l + 65 then nI 0 else gI s0 194 i) := by
  intro F
  induction F with
  | zero => intro x s hT hx hF; omega
  | succ F ih =>
    intro x s hT hx hF fr hA
    have un : b_X12_fresh_32 fu (F + 1) 153 (nI l) (nI x) s = b_X12_fresh_32_b fu (b_X12_fresh_32 fu F) 153 (nI l) (nI x) s := rfl
    rw [un]
    by_cases c1 : x = 65
    · subst c1
      refine ⟨s, ?_, hT, fr, hA⟩
      clear ih un hA
      simp (disch := first | decide | omega) [↓bd_e, isb, ck_tt, NP, NF, NC, NB, NS, GS, kdR, tpR hT, b_X12_fresh_32_b]
    · obtain ⟨s1, hs1⟩ : ∃ s1, s1 = sI (sI (sI s 190 (65 * l + x) (nI 0)) 191 (65 * l + x) (nI 0)) 194 (65 * l + x) (nI 0) := ⟨_, rfl⟩
      have frs : Fr [(190, none), (191, none), (194, none)] s s1 := by rw [hs1]; exact (((Fr.ia s 190 _ _).tr (Fr.ia _ 191 _ _)).tr (Fr.ia _ 194 _ _)).wd (by decide)
      have z0 : ∀ i, gI s1 190 i = if i = 65 * l + x then nI 0 else gI s 190 i := fun i => by rw [hs1]; simp [gI_sI]
      have z1 : ∀ i, gI s1 191 i = if i = 65 * l + x then nI 0 else gI s 191 i := fun i => by rw [hs1]; simp [gI_sI]
      have z4 : ∀ i, gI s1 194 i = if i = 65 * l + x then nI 0 else gI s 194 i := fun i => by rw [hs1]; simp [gI_sI]
      obtain ⟨u, q1, q2, q3, q4⟩ := ih (x + 1) s1 (hT.r (by rw [hs1]; rfl)) (by omega) (by omega) (fr.tt frs) (fun i => by
          rw [z0, z1, z4, (hA i).1, (hA i).2.1, (hA i).2.2]
          by_cases e : i = 65 * l + x
          · rw [if_pos e, if_pos e, if_pos e, if_pos (by omega), if_pos (by omega), if_pos (by omega)]
            exact ⟨rfl, rfl, rfl⟩
          · rw [if_neg e, if_neg e, if_neg e]
            by_cases d : 65 * l ≤ i ∧ i < 65 * l + x
            · rw [if_pos d, if_pos d, if_pos d, if_pos (by omega), if_pos (by omega), if_pos (by omega)]
              exact ⟨rfl, rfl, rfl⟩
            · rw [if_neg d, if_neg d, if_neg d, if_neg (by omega), if_neg (by omega), if_neg (by omega)]
              exact ⟨rfl, rfl, rfl⟩)
      refine ⟨u, ?_, q2, q3, q4⟩
      rw [← q1, hs1]
      clear ih un hA frs z0 z1 z4 q1 q2 q3 q4
      simp (disch := first | decide | omega) [↓bd_e, isb, ck_tt, NP, NF, NC, NB, NS, GS, kdR, tpR hT, b_X12_fresh_32_b]
def Wf : List PL := [(186, none), (187, none), (188, none), (189, none), (190, none), (191, none), (194, none)]
theorem fresh_r {st : St} (hT : Top st) {fu : Nat} (hf : 100 ≤ fu) {l : Nat} (hl : l < 4) : ∃ u, f_X12_fresh fu 153 (nI l) st = some u ∧ Fr Wf st u ∧ Top u ∧ (∀ m, gI u 186 m = (if m = l then -nI 1 else gI st 186 m) ∧ gI u 187 m = (if m = l then -nI 1 else gI st 187 m) ∧ gI u 188 m = (if m = l then -nI 1 else gI st 188 m) ∧ gI u 189 m = (if m = l then nI 255 else gI st 189 m)) ∧ ∀ i, gI u 190 i = (if 65 * l ≤ i ∧ i < 65 * l + 65 then nI 0 else gI st 190 i) ∧ gI u 191 i = (if 65 * l ≤ i ∧ i < 65 * l + 65 then nI 0 else gI st 191 i) ∧ gI u 194 i = (if 65 * l ≤ i ∧ i < 65 * l + 65 then nI 0 else gI st 194 i) := by
  obtain ⟨s1, hs1⟩ : ∃ s1, s1 = sI (sI (sI (sI st 186 l (-nI 1)) 187 l (-nI 1)) 188 l (-nI 1)) 189 l (nI 255) := ⟨_, rfl⟩
  have fr1 : Fr [(186, none), (187, none), (188, none), (189, none)] st s1 := by rw [hs1]; exact ((((Fr.ia st 186 _ _).tr (Fr.ia _ 187 _ _)).tr (Fr.ia _ 188 _ _)).tr (Fr.ia _ 189 _ _)).wd (by decide)
  have i0 := fr1.fi 190 (by decide)
  have i1 := fr1.fi 191 (by decide)
  have i4 := fr1.fi 194 (by decide)
  obtain ⟨u, e, hTu, fr2, v⟩ := fr32 (fu := fu) hl s1 fu 0 s1 (hT.r (by rw [hs1]; rfl)) (by omega) (by omega) Fr.rf (fun i => by rw [if_neg (by omega), if_neg (by omega), if_neg (by omega)]; exact ⟨rfl, rfl, rfl⟩)
  refine ⟨u, ?_, (fr1.tr fr2).wd (by decide), hTu, fun m => ?_, fun i => ?_⟩
  · rw [← e, hs1]
    clear e v fr2 fr1 i0 i1 i4
    simp (disch := first | decide | omega) [↓bd_e, isb, ck_tt, NP, NF, NC, NB, NS, GS, kdR, tpR hT, f_X12_fresh]
  · rw [fr2.fi 186 (by decide), fr2.fi 187 (by decide), fr2.fi 188 (by decide), fr2.fi 189 (by decide), hs1]
    simp [gI_sI]
  · have := v i
    rw [i0, i1, i4] at this
    exact this
theorem l154 {fu : Nat} {l : Nat} (hl : l < 4) (x3 : Int32) (s0 : St) : ∀ (F x : Nat) (s : St), Top s → 49 ≤ x → x ≤ 65 → 65 < F + x → Fr [(195, none)] s0 s → (∀ i, gI s 195 i = if 49 ≤ i ∧ i < x ∧ gI s0 195 i = nI l then -nI 1 else gI s0 195 i) → ∃ u, b_X12_list_154 fu F 153 (nI l) x3 (nI x) s = some (x3, u) ∧ Top u ∧ Fr [(195, none)] s0 u ∧ ∀ i, gI u 195 i = if 49 ≤ i ∧ i < 65 ∧ gI s0 195 i = nI l then -nI 1 else gI s0 195 i := by
  intro F
  induction F with
  | zero => intro x s hT h1 hx hF; omega
  | succ F ih =>
    intro x s hT h1 hx hF fr hA
    have un : b_X12_list_154 fu (F + 1) 153 (nI l) x3 (nI x) s = b_X12_list_154_b fu (b_X12_list_154 fu F) 153 (nI l) x3 (nI x) s := rfl
    rw [un]
    by_cases c1 : x = 65
    · subst c1
      refine ⟨s, ?_, hT, fr, hA⟩
      clear ih un hA
      simp (disch := first | decide | omega) [↓bd_e, isb, ck_tt, NP, NF, NC, NB, NS, GS, kdR, tpR hT, b_X12_list_154_b]
    · have sx : gI s 195 x = gI s0 195 x := by rw [hA x, if_neg (by omega)]
      have go : ∀ v : Int32, b_X12_list_154_b fu (b_X12_list_154 fu F) 153 (nI l) x3 (nI x) s = b_X12_list_154 fu F 153 (nI l) x3 (nI (x + 1)) (sI s 195 x v) → v = (if gI s0 195 x = nI l then -nI 1 else gI s0 195 x) → ∃ u, b_X12_list_154_b fu (b_X12_list_154 fu F) 153 (nI l) x3 (nI x) s = some (x3, u) ∧ Top u ∧ Fr [(195, none)] s0 u ∧ ∀ i, gI u 195 i = if 49 ≤ i ∧ i < 65 ∧ gI s0 195 i = nI l then -nI 1 else gI s0 195 i := fun v e hv => by
        obtain ⟨u, q1, q2, q3, q4⟩ := ih (x + 1) (sI s 195 x v) (hT.r rfl) (by omega) (by omega) (by omega) (fr.tt (Fr.ia _ _ _ _)) (fun i => by
          rw [gI_sI]
          by_cases e : i = x
          · subst e
            rw [if_pos ⟨rfl, rfl⟩, hv]
            by_cases d : gI s0 195 i = nI l
            · rw [if_pos d, if_pos ⟨h1, by omega, d⟩]
            · rw [if_neg d, if_neg (fun q => d q.2.2)]
          · rw [if_neg (fun q => e q.2), hA i]
            by_cases d : 49 ≤ i ∧ i < x ∧ gI s0 195 i = nI l
            · rw [if_pos d, if_pos ⟨d.1, by omega, d.2.2⟩]
            · rw [if_neg d, if_neg (fun q => d ⟨q.1, by omega, q.2.2⟩)])
        exact ⟨u, by rw [e]; exact q1, q2, q3, q4⟩
      by_cases d : gI s 195 x = nI l
      · refine go (-nI 1) ?_ (by rw [← sx, if_pos d])
        clear go ih un hA
        simp (disch := first | decide | omega) [↓bd_e, isb, ck_tt, NP, NF, NC, NB, NS, GS, kdR, tpR hT, b_X12_list_154_b, b_X12_list_189, d]
      · refine go (gI s 195 x) ?_ (by rw [← sx, if_neg d])
        clear go ih un hA
        simp (disch := first | decide | omega) [↓bd_e, isb, ck_tt, NP, NF, NC, NB, NS, GS, kdR, tpR hT, b_X12_list_154_b, b_X12_list_189, d]
