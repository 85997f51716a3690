/-! PURE: the text of a list, in the reference: a cue -/
theorem c130 {fu : Nat} (k x4 x5 : Int32) : ∀ (F x : Nat) (s : St), Top s → 1 ≤ x → x ≤ 65 → 65 < F + x → (∀ c, 1 ≤ c → c < x → gI s 184 c = nI 0) → ∃ u, b_X12_cue_130 fu F 153 k x4 x5 (nI x) s = b_X12_cue_151 fu fu 153 k x4 x5 u ∧ Fr [(184, none)] s u ∧ Top u ∧ ∀ c, 1 ≤ c → c ≤ 64 → gI u 184 c = nI 0 := by
  intro F
  induction F with
  | zero => intro x s hT h1 hx hF; omega
  | succ F ih =>
    intro x s hT h1 hx hF hz
    have un : b_X12_cue_130 fu (F + 1) 153 k x4 x5 (nI x) s = b_X12_cue_130_b fu (b_X12_cue_130 fu F) 153 k x4 x5 (nI x) s := rfl
    rw [un]
    by_cases c1 : x = 65
    · subst c1
      refine ⟨s, ?_, Fr.rf, hT, fun c a d => hz c a (by omega)⟩
      clear ih un hz
      simp (disch := first | decide | omega) [↓bd_e, isb, ck_tt, NP, NF, NC, NB, NS, GS, kdR, tpR hT, b_X12_cue_130_b]
    · obtain ⟨u, e, fr, hTu, v⟩ := ih (x + 1) (sI s 184 x (nI 0)) (hT.r rfl) (by omega) (by omega) (by omega) (fun c c1 hc => by
        rw [gI_sI]
        by_cases e : c = x
        · rw [if_pos ⟨rfl, e⟩]
        · rw [if_neg (by omega)]; exact hz c c1 (by omega))
      refine ⟨u, ?_, (Fr.ia s 184 x (nI 0)).tt fr, hTu, v⟩
      rw [← e]
      clear ih un e fr v hz
      simp (disch := first | decide | omega) [↓bd_e, isb, ck_tt, NP, NF, NC, NB, NS, GS, kdR, tpR hT, b_X12_cue_130_b]
theorem c195 {fu : Nat} {k bl : Nat} (hk : k < 60) (hb : bl ≤ 1) (hb0 : bl = 0 → 1 ≤ k) (x4 : Int32) : ∀ (F x : Nat) (s : St), Top s → 1 ≤ x → x ≤ 65 → 65 < F + x → ∃ u, b_X12_cue_195 fu F 153 (nI k) x4 (nI bl) (nI x) s = some (x4, u) ∧ Fr [(179, none)] s u ∧ Top u ∧ (∀ c, x ≤ c → c ≤ 64 → gI u 179 (65 * k + c) = if gI s 184 c = nI 0 then (if bl = 1 then nI 0 else gI s 179 (65 * (k - 1) + c)) else gI s 183 c) ∧ ∀ i, (i < 65 * k + x ∨ 65 * k + 64 < i) → gI u 179 i = gI s 179 i := by
  intro F
  induction F with
  | zero => intro x s hT h1 hx hF; omega
  | succ F ih =>
    intro x s hT h1 hx hF
    have un : b_X12_cue_195 fu (F + 1) 153 (nI k) x4 (nI bl) (nI x) s = b_X12_cue_195_b fu (b_X12_cue_195 fu F) 153 (nI k) x4 (nI bl) (nI x) s := rfl
    rw [un]
    by_cases c1 : x = 65
    · subst c1
      refine ⟨s, ?_, Fr.rf, hT, fun c a d => by omega, fun i _ => rfl⟩
      clear ih un
      simp (disch := first | decide | omega) [↓bd_e, isb, ck_tt, NP, NF, NC, NB, NS, GS, kdR, tpR hT, b_X12_cue_195_b]
    · have go : ∀ v : Int32, b_X12_cue_195_b fu (b_X12_cue_195 fu F) 153 (nI k) x4 (nI bl) (nI x) s = b_X12_cue_195 fu F 153 (nI k) x4 (nI bl) (nI (x + 1)) (sI s 179 (65 * k + x) v) → v = (if gI s 184 x = nI 0 then (if bl = 1 then nI 0 else gI s 179 (65 * (k - 1) + x)) else gI s 183 x) → ∃ u, b_X12_cue_195_b fu (b_X12_cue_195 fu F) 153 (nI k) x4 (nI bl) (nI x) s = some (x4, u) ∧ Fr [(179, none)] s u ∧ Top u ∧ (∀ c, x ≤ c → c ≤ 64 → gI u 179 (65 * k + c) = if gI s 184 c = nI 0 then (if bl = 1 then nI 0 else gI s 179 (65 * (k - 1) + c)) else gI s 183 c) ∧ ∀ i, (i < 65 * k + x ∨ 65 * k + 64 < i) → gI u 179 i = gI s 179 i := fun v e hv => by
        obtain ⟨u, r1, r2, r3, r4, r5⟩ := ih (x + 1) (sI s 179 (65 * k + x) v) (hT.r rfl) (by omega) (by omega) (by omega)
        have i4 : ∀ c, gI (sI s 179 (65 * k + x) v) 184 c = gI s 184 c := fun c => by rw [gI_sI_n _ _ _ (by decide)]
        have i3 : ∀ c, gI (sI s 179 (65 * k + x) v) 183 c = gI s 183 c := fun c => by rw [gI_sI_n _ _ _ (by decide)]
        refine ⟨u, by rw [e]; exact r1, (Fr.ia s 179 _ v).tt r2, r3, fun c a d => ?_, fun i hi => ?_⟩
        · by_cases ec : c = x
          · subst ec
            rw [r5 _ (by omega), gI_sI, if_pos ⟨rfl, rfl⟩]; exact hv
          · rw [r4 c (by omega) d, i4, i3]
            by_cases b1 : bl = 1
            · rw [if_pos b1, if_pos b1]
            · have k1 := hb0 (by omega)
              have i9 : gI (sI s 179 (65 * k + x) v) 179 (65 * (k - 1) + c) = gI s 179 (65 * (k - 1) + c) := by rw [gI_sI, if_neg (by omega)]
              rw [if_neg b1, if_neg b1, i9]
        · rw [r5 i (by omega), gI_sI, if_neg (by omega)]
      by_cases n0 : gI s 184 x = nI 0
      · by_cases b1 : bl = 1
        · subst b1
          refine go (nI 0) ?_ (by rw [if_pos n0, if_pos rfl])
          clear go ih un
          simp (disch := first | decide | omega) [↓bd_e, isb, ck_tt, NP, NF, NC, NB, NS, GS, kdR, tpR hT, b_X12_cue_195_b, b_X12_cue_256, n0]
        · have b0 : bl = 0 := by omega
          subst b0
          have k1 := hb0 rfl
          refine go (gI s 179 (65 * (k - 1) + x)) ?_ (by rw [if_pos n0, if_neg (by decide)])
          clear go ih un hb0
          simp (disch := first | decide | omega) [↓bd_e, isb, ck_tt, NP, NF, NC, NB, NS, GS, kdR, tpR hT, b_X12_cue_195_b, b_X12_cue_256, n0]
      · refine go (gI s 183 x) ?_ (by rw [if_neg n0])
        clear go ih un hb0
        simp (disch := first | decide | omega) [↓bd_e, isb, ck_tt, NP, NF, NC, NB, NS, GS, kdR, tpR hT, b_X12_cue_195_b, b_X12_cue_256, n0]
/-! the head's writes, and what is behind the options -/
def w6 (s : St) (k : Nat) (v : Int32) : St := sI (sI (sI (sI (sI (sI s (171 + 0) k v) (171 + 1) k (nI 0)) (171 + 2) k (nI 0)) (171 + 3) k (nI 0)) (171 + 4) k (nI 0)) (171 + 5) k (nI 0)
theorem w6_fr (s : St) (k : Nat) (v : Int32) : Fr Wp s (w6 s k v) := (Wp_i (by omega) _ _ _).tt ((Wp_i (by omega) _ _ _).tt ((Wp_i (by omega) _ _ _).tt ((Wp_i (by omega) _ _ _).tt ((Wp_i (by omega) _ _ _).tt (Wp_i (by omega) _ _ _)))))
def Wh : List PL := [(171, none), (172, none), (173, none), (174, none), (175, none), (176, none)]
theorem w6_h (s : St) (k : Nat) (v : Int32) : Fr Wh s (w6 s k v) := ((((((Fr.ia s 171 k v).tr (Fr.ia _ 172 k _)).tr (Fr.ia _ 173 k _)).tr (Fr.ia _ 174 k _)).tr (Fr.ia _ 175 k _)).tr (Fr.ia _ 176 k _)).wd (by decide)
theorem rf_h {a b : St} (h : Fr Wh a b) : Same S_rf a b := h.same (by decide)
theorem w6_U {s : St} {c nm : Nat} {D : LD} (hU : RU c D s) : RU (c + 1) (hd0 D c nm) (w6 s c (nI nm)) := by
  intro x hx k hk
  unfold w6 hd0
  rw [st1_n (x := k) (y := x) _ _ (show k ≠ 6 ∨ x ≠ c by omega)]
  have one : ∀ (D' : LD) (s' : St) (j v' : Nat), (gI s' (171 + k) x = nI (D' k x) ∨ (k = j ∧ x = c)) → gI (sI s' (171 + j) c (nI v')) (171 + k) x = nI (st1 D' j c v' k x) := fun D' s' j v' h => by
    rw [gI_sI]
    by_cases e : k = j ∧ x = c
    · obtain ⟨rfl, rfl⟩ := e
      rw [if_pos ⟨rfl, rfl⟩, st1_e]
    · rw [if_neg (by omega), st1_n _ _ (by omega)]
      rcases h with h | h
      · exact h
      · exact absurd h e
  by_cases xc : x = c
  · have h7 : k = 0 ∨ k = 1 ∨ k = 2 ∨ k = 3 ∨ k = 4 ∨ k = 5 := by omega
    rcases h7 with e | e | e | e | e | e
    · exact one _ _ _ _ (Or.inl (one _ _ _ _ (Or.inl (one _ _ _ _ (Or.inl (one _ _ _ _ (Or.inl (one _ _ _ _ (Or.inl (one _ _ _ _ (Or.inr ⟨e, xc⟩)))))))))))
    · exact one _ _ _ _ (Or.inl (one _ _ _ _ (Or.inl (one _ _ _ _ (Or.inl (one _ _ _ _ (Or.inl (one _ _ _ _ (Or.inr ⟨e, xc⟩)))))))))
    · exact one _ _ _ _ (Or.inl (one _ _ _ _ (Or.inl (one _ _ _ _ (Or.inl (one _ _ _ _ (Or.inr ⟨e, xc⟩)))))))
    · exact one _ _ _ _ (Or.inl (one _ _ _ _ (Or.inl (one _ _ _ _ (Or.inr ⟨e, xc⟩)))))
    · exact one _ _ _ _ (Or.inl (one _ _ _ _ (Or.inr ⟨e, xc⟩)))
    · exact one _ _ _ _ (Or.inr ⟨e, xc⟩)
  · exact one _ _ _ _ (Or.inl (one _ _ _ _ (Or.inl (one _ _ _ _ (Or.inl (one _ _ _ _ (Or.inl (one _ _ _ _ (Or.inl (one _ _ _ _ (Or.inl (hU x (by omega) k hk))))))))))))
theorem c42 {s s1 : St} (hT : Top s) (fu : Nat) {k r : Nat} (hk : k < 60) (hr : r ≤ 1) (v : Int32) (e : f_X12_options fu 153 (nI k) (w6 s k v) = some (nI r, s1)) : b_X12_cue_42 fu 153 (nI k) v s = b_X12_cue_102 fu 153 (nI k) v (nI (if r = 1 ∨ k = 0 then 1 else 0)) s1 := by
  unfold w6 at e
  have hd : b_X12_cue_42 fu 153 (nI k) v s = ca (f_X12_options fu 153 (nI k) (sI (sI (sI (sI (sI (sI s (171 + 0) k v) (171 + 1) k (nI 0)) (171 + 2) k (nI 0)) (171 + 3) k (nI 0)) (171 + 4) k (nI 0)) (171 + 5) k (nI 0))) (fun r17 s18 => if r17 = 0 then (if nI k = 0 then b_X12_cue_97 fu 153 (nI k) v s18 else b_X12_cue_102 fu 153 (nI k) v 0 s18) else b_X12_cue_97 fu 153 (nI k) v s18) := by
    clear e
    simp (disch := first | decide | omega) [↓bd_e, isb, ck_tt, NP, NF, NC, NB, NS, GS, kdR, tpR hT, b_X12_cue_42]
  rw [hd, e, ca_s]
  by_cases r1 : r = 1
  · subst r1
    rw [if_neg (by decide), if_pos (Or.inl rfl)]; rfl
  · have r0 : r = 0 := by omega
    subst r0
    rw [if_pos (show nI 0 = 0 from rfl)]
    by_cases k0 : k = 0
    · subst k0
      rw [if_pos (show nI 0 = 0 from rfl), if_pos (Or.inr rfl)]; rfl
    · rw [if_neg (show ¬ nI k = 0 from fun e => k0 ((nI_eq (a := k) (b := 0) (by omega) (by omega)).mp e)), if_neg (by omega)]; rfl
/-- behind the {: where the acts begin, none yet, nothing named -/
theorem c102 {s s1 : St} (hT : Top s1) (fu : Nat) (hf : 100 ≤ fu) {k a : Nat} (hk : k < 60) (v x5 : Int32) (e : f_X12_needSign fu 153 (nI 123) s = some s1) (h35 : gI s1 153 35 = nI a) : ∃ u, b_X12_cue_102 fu 153 (nI k) v x5 s = b_X12_cue_151 fu fu 153 (nI k) v x5 u ∧ Fr [(177, none), (178, none), (184, none)] s1 u ∧ Top u ∧ (∀ i, gI u 178 i = if i = k then nI a else gI s1 178 i) ∧ (∀ i, gI u 177 i = if i = k then nI 0 else gI s1 177 i) ∧ ∀ c, 1 ≤ c → c ≤ 64 → gI u 184 c = nI 0 := by
  obtain ⟨u, r1, r2, r3, r4⟩ := c130 (fu := fu) (nI k) v x5 fu 1 (sI (sI s1 178 k (nI a)) 177 k (nI 0)) (hT.r rfl) (by omega) (by omega) (by omega) (fun c c1 c2 => by omega)
  refine ⟨u, ?_, (((Fr.ia s1 178 k (nI a)).tr (Fr.ia _ 177 k (nI 0))).tr r2).wd (by decide), r3, fun i => ?_, fun i => ?_, r4⟩
  · rw [← r1]
    unfold b_X12_cue_102
    rw [ck_t (show (kd 153).1 = 12 from rfl), show f_X12_needSign fu 153 123 s = some s1 from e, cv_s]
    clear r1 r2 r3 r4 e
    simp (disch := first | decide | omega) [↓bd_e, isb, ck_tt, NP, NF, NC, NB, NS, GS, kdR, tpR hT, h35]
  · rw [r2.fi 178 (by decide), gI_sI_n _ _ _ (by decide), gI_sI]; simp
  · rw [r2.fi 177 (by decide), gI_sI, gI_sI_n _ _ _ (by decide)]; simp
def Wq : List PL := [(153, some 5), (153, some 6), (153, some 7), (153, some 8), (153, some 35), (153, some 38), (171, none), (172, none), (173, none), (174, none), (175, none), (176, none), (177, none), (178, none), (179, none), (180, none), (181, none), (182, none), (183, none), (184, none), (185, none)]
theorem Wq_p {a b : St} (h : Fr Wp a b) : Fr Wq a b := h.sub (by simp [Wp, Wq])
theorem Wq_x {a b : St} (h : Fr Wx a b) : Fr Wq a b := h.sub (by simp [Wx, Wq])
theorem Wq_3 {a b : St} (h : Fr [(177, none), (178, none), (184, none)] a b) : Fr Wq a b := h.sub (by simp [Wq])
theorem Wq_9 {a b : St} (h : Fr [(179, none)] a b) : Fr Wq a b := h.sub (by simp [Wq])
theorem rf_3 {a b : St} (h : Fr [(177, none), (178, none), (184, none)] a b) : Same S_rf a b := h.same (by decide)
theorem rf_9' {a b : St} (h : Fr [(179, none)] a b) : Same S_rf a b := h.same (by decide)
/-- a cue behind its name, dead -/
theorem c42_D {s : St} (hT : Top s) {b : BY} {n T f p M : Nat} (h : DM b n T f p M s) {fu : Nat} (hf : 9000 ≤ fu) (hM : M ≤ 4000) {k v : Nat} (hk : k < 60) (h35 : ∃ a, a ≤ 300 ∧ gI s 153 35 = nI a) : ∃ u, b_X12_cue_42 fu 153 (nI k) (nI v) s = some (nI v, u) ∧ Fr Wq s u ∧ Top u ∧ DM b n T f p M u ∧ ∃ a, a ≤ 300 ∧ gI u 153 35 = nI a := by
  obtain ⟨a, ha, h35⟩ := h35
  have fr0 := w6_fr s k (nI v)
  obtain ⟨r, s1, e1, hr, fr1, hT1, d1⟩ := opts_D (b := b) (n := n) (fu := fu) (by omega) hk fu M (fun _ => 0) (w6 s k (nI v)) (fun _ => by show 0 ≤ 1; omega) (by omega) (hT.r rfl) (h.same (rf_h (w6_h s k (nI v))))
  have e1' : f_X12_options fu 153 (nI k) (w6 s k (nI v)) = some (nI r, s1) := e1
  obtain ⟨s2, e2, fr2, hT2, d2⟩ := needS_D hT1 d1 fu (c := 123) (by omega) (by omega)
  have q35 : gI s2 153 35 = nI a := by rw [(W5_k fr2).1, fr1.ki 153 35 (by decide), fr0.ki 153 35 (by decide)]; exact h35
  obtain ⟨bl, hbl⟩ : ∃ bl, bl = if r = 1 ∨ k = 0 then 1 else 0 := ⟨_, rfl⟩
  have bl1 : bl ≤ 1 := by rw [hbl]; by_cases c : r = 1 ∨ k = 0 <;> simp [c]
  have bl0 : bl = 0 → 1 ≤ k := fun e => by
    by_cases c : r = 1 ∨ k = 0
    · rw [if_pos c] at hbl; omega
    · omega
  obtain ⟨s3, e3, fr3, hT3, -⟩ := c102 hT2 fu (by omega) hk (nI v) (nI bl) e2 q35
  obtain ⟨s4, e4, fr4, hT4, d4, a4⟩ := c151_D hf hk (nI v) (nI bl) fu M s3 (by omega) hM hT3 ((d2.mono (by omega)).same (rf_3 fr3)) ⟨a, ha, by rw [fr3.ki 153 35 (by decide)]; exact q35⟩
  obtain ⟨u, e5, fr5, hT5, -⟩ := c195 (fu := fu) hk bl1 bl0 (nI v) fu 1 s4 hT4 (by omega) (by omega) (by omega)
  obtain ⟨a', q1, q2⟩ := a4
  refine ⟨u, ?_, (Wq_p (fr0.tt (fr1.tt (Wp_5 fr2)))).tt ((Wq_3 fr3).tt ((Wq_x fr4).tt (Wq_9 fr5))), hT5, d4.same (rf_9' fr5), a', q1, by rw [fr5.ki 153 35 (by decide)]; exact q2⟩
  rw [c42 hT fu hk hr (nI v) e1', ← hbl, e3, e4]
  exact e5
theorem cue_D {st : St} (hT : Top st) {b : BY} {n T f p M : Nat} (h : DM b n T f p M st) {fu : Nat} (hf : 9000 ≤ fu) (hM : M ≤ 4000) {k bf : Nat} (hk : k < 60) (hb : bf ≤ 20000000) (hs : gI st 153 8 = nI 0) (h35 : ∃ a, a ≤ 300 ∧ gI st 153 35 = nI a) : ∃ v u, f_X12_cue fu 153 (nI bf) (nI k) st = some (nI v, u) ∧ v ≤ 20000000 ∧ Fr Wq st u ∧ Top u ∧ DM b n T f p M u ∧ ∃ a, a ≤ 300 ∧ gI u 153 35 = nI a := by
  obtain ⟨t, s, g5, g4, g6, g7, g8, g9, g10, g11, g12, g13, -, -, -, -, -, n4⟩ := h.see
  have s0 : s = 0 := by
    rw [hs] at g9
    have := (nI_eq (a := 0) (b := s) (by omega) (by omega)).mp g9
    omega
  obtain ⟨v, s1, e1, l1, fr1, hT1, d1⟩ := name_D hT h fu
  have d1' := d1.mono (show M - 1 ≤ M by omega)
  obtain ⟨a, ha, h35⟩ := h35
  obtain ⟨u, r1, r2, r3, r4, r5⟩ := c42_D hT1 d1' hf hM (v := v) hk ⟨a, ha, by rw [fr1.ki 153 35 (by decide)]; exact h35⟩
  refine ⟨v, u, ?_, l1, (Wq_p (Wp_6 fr1)).tt r2, r3, r4, r5⟩
  rw [← r1]
  have tl := tell_D hT1 d1' fu (k := 3) (q := pl b n t) (by omega) (by omega) g12 (Or.inl (g13 s0).1)
  have e1' : f_X12_name fu 153 st = some (nI v, s1) := e1
  unfold f_X12_cue
  rw [tp_153_4 hT, ck_t (by decide), ck_t (show (kd 153).1 = 12 from rfl), bd_e, ck_t (show (kd 153).1 = 12 from rfl), g5, ck_t (in157 g4), show ix (nI t) = t from ix_nI (by omega), g7, bd_e, ck_t (show (kd 153).1 = 12 from rfl), e1', ca_s, ck_t (show (kd 153).1 = 12 from rfl)]
  by_cases i8 : gI s1 153 8 = 0
  · rw [if_pos i8, ck_t (show (kd 153).1 = 12 from rfl)]
    by_cases i38 : gI s1 153 38 = 0
    · rw [if_pos i38]
    · rw [if_neg i38]
      by_cases lt : nI bf < nI v
      · rw [if_pos lt]
      · rw [if_neg lt, ck_t (show (kd 153).1 = 12 from rfl), show f_X12_tell fu 153 3 (nI (pl b n t)) s1 = some s1 from tl, cv_s]
  · rw [if_neg i8]
