/-! PURE: the text of a list, in the reference: a cue, in step -/
noncomputable def pCueT (b : BY) (n c a : Nat) (D : LD) (t : Nat) : PR (Nat × LD) := pb (pName b n t) fun nm t1 => if 0 < c ∧ nm ≤ D 0 (c - 1) then .inr (3, pl b n t) else pb (pOpts b n c a 7 0 (hd0 D c nm) t1) fun D2 t2 => pb (pActs b n 4001 a D2 t2) fun x t3 => .inl ((x.1, st1 x.2 7 (c + 1) x.1), t3)
theorem pCue_T {b : BY} {n c a t : Nat} {D : LD} (hw : wB b n t 1 = true) (hc : c < 60) : pCue b n c a D t = pCueT b n c a D (t + 1) := by
  unfold pCue pCueT pHead
  rw [if_pos hw, if_neg (by omega)]
  cases pName b n (t + 1) with
  | inr e => rfl
  | inl x =>
    obtain ⟨x, t1⟩ := x
    rw [pb_i, pb_i]
    by_cases o : 0 < c ∧ x ≤ D 0 (c - 1)
    · rw [if_pos o, if_pos o]; rfl
    · rw [if_neg o, if_neg o]; rfl
def RRs (c a : Nat) (D : LD) (st : St) : Prop := gI st 153 35 = nI a ∧ RU c D st ∧ ARx a D st ∧ (∀ i, i < c → gI st 178 i = nI (D 7 i) ∧ gI st 177 i = nI (D 7 (i + 1) - D 7 i)) ∧ ∀ i, i < c → ∀ ch, ch < 64 → gI st 179 (65 * i + (ch + 1)) = nI (trk D i ch)
theorem LOK.m7 {c a : Nat} {D : LD} (h : LOK c a D) : ∀ {j i : Nat}, i ≤ j → j ≤ c → D 7 i ≤ D 7 j
  | 0, i, h1, h2 => by rw [show i = 0 by omega]; exact Nat.le_refl _
  | j + 1, i, h1, h2 => by
    rcases Nat.eq_or_lt_of_le h1 with e | e
    · rw [e]; exact Nat.le_refl _
    · exact Nat.le_trans (LOK.m7 h (show i ≤ j by omega) (by omega)) (h.2.2.2.2.1 j (by omega)).2.1
theorem LOK.m6 {c a : Nat} {D : LD} (h : LOK c a D) : ∀ {i : Nat}, i < c → D 6 i ≤ D 7 i
  | 0, hi => by
    rcases (h.2.2.2.2.1 0 hi).2.2 with e | e
    · rw [e]; exact Nat.le_refl _
    · omega
  | i + 1, hi => by
    rcases (h.2.2.2.2.1 (i + 1) hi).2.2 with e | ⟨-, e⟩
    · rw [e]; exact Nat.le_refl _
    · rw [e, show i + 1 - 1 = i by omega]
      exact Nat.le_trans (LOK.m6 h (show i < c by omega)) (LOK.m7 h (by omega) (by omega))
/-- what the new cue tracks, and what the others did -/
theorem trk_new {c a a' : Nat} {D D2 D3 : LD} (hL : LOK c a D) (h2 : ∀ j i, 7 ≤ j ∨ i ≠ c → D2 j i = D j i) (h3 : ∀ j i, j < 8 ∨ i < a → D3 j i = D2 j i) (haa : a ≤ a') (ch : Nat) : (∀ i, i < c → trk (st1 D3 7 (c + 1) a') i ch = trk D i ch) ∧ (D2 6 c = a → trk (st1 D3 7 (c + 1) a') c ch = (scO D3 ch a a').getD 0) ∧ (0 < c → D2 6 c = D 6 (c - 1) → trk (st1 D3 7 (c + 1) a') c ch = ((scO D3 ch a a').or (some (trk D (c - 1) ch))).getD 0) := by
  have k4 := hL.2.2.2.1
  have e11 : ∀ i, i < a → ∀ j, D3 j i = D j i ∨ j < 7 := fun i hi j => by
    by_cases c7 : j < 7
    · exact Or.inr c7
    · exact Or.inl (by rw [h3 j i (by omega), h2 j i (by omega)])
  have same : ∀ lo h, h ≤ a → scO D3 ch lo h = scO D ch lo h := fun lo h hh => scO_c h (fun i hi => by
    rcases e11 i (by omega) 11 with q | q
    · rcases e11 i (by omega) 10 with r | r
      · exact ⟨q, r⟩
      · omega
    · omega)
  have sc7 : ∀ lo h, scO (st1 D3 7 (c + 1) a') ch lo h = scO D3 ch lo h := fun lo h => scO_c h (fun i _ => ⟨st1_n _ _ (by omega), st1_n _ _ (by omega)⟩)
  refine ⟨fun i hi => ?_, fun e6 => ?_, fun c0 e6 => ?_⟩
  · unfold trk
    have m := hL.m7 (show i + 1 ≤ c by omega) (Nat.le_refl _)
    rw [st1_n _ _ (by omega), st1_n _ _ (by omega), h3 6 i (by omega), h3 7 (i + 1) (by omega), h2 6 i (by omega), h2 7 (i + 1) (by omega), sc7, same _ _ (by omega)]
  · unfold trk
    rw [st1_n _ _ (by omega), st1_e, h3 6 c (by omega), e6, sc7]
  · have m6 := hL.m6 (show c - 1 < c by omega)
    have m7 := hL.m7 (show c - 1 ≤ c by omega) (Nat.le_refl _)
    unfold trk
    rw [st1_n _ _ (by omega), st1_e, h3 6 c (by omega), e6, sc7, scO_s (lo := a) (by omega) a' haa, same _ a (Nat.le_refl _), show c - 1 + 1 = c by omega, k4]
    cases scO D3 ch a a' with
    | some v => rfl
    | none => rfl
theorem cue_42 {st s1 : St} (hT : Top st) {b : BY} {n t v bf k : Nat} (fu : Nat) (g5 : gI st 153 5 = nI t) (g4 : t ≤ 4000) (g7 : gI st 157 t = nI (pl b n t)) (e1 : f_X12_name fu 153 st = some (nI v, s1)) (hc : gI s1 153 8 = nI 1 ∨ gI s1 153 38 = nI 0 ∨ nI bf < nI v) : f_X12_cue fu 153 (nI bf) (nI k) st = b_X12_cue_42 fu 153 (nI k) (nI v) s1 := by
  unfold f_X12_cue
  rw [tp_153_4 hT, ck_t (by decide), ck_t (show (kd 153).1 = 12 from rfl), bd_e, ck_t (show (kd 153).1 = 12 from rfl), g5, ck_t (in157 g4), show ix (nI t) = t from ix_nI (by omega), g7, bd_e, ck_t (show (kd 153).1 = 12 from rfl), e1, ca_s, ck_t (show (kd 153).1 = 12 from rfl)]
  by_cases i8 : gI s1 153 8 = 0
  · rw [if_pos i8, ck_t (show (kd 153).1 = 12 from rfl)]
    by_cases i38 : gI s1 153 38 = 0
    · rw [if_pos i38]
    · rw [if_neg i38]
      rcases hc with q | q | q
      · rw [i8] at q; exact absurd q (by decide)
      · exact absurd q i38
      · rw [if_pos q]
  · rw [if_neg i8]
theorem cue_3 {st s1 s2 : St} (hT : Top st) {b : BY} {n t v bf k : Nat} (fu : Nat) (g5 : gI st 153 5 = nI t) (g4 : t ≤ 4000) (g7 : gI st 157 t = nI (pl b n t)) (e1 : f_X12_name fu 153 st = some (nI v, s1)) (i8 : gI s1 153 8 = nI 0) (i38 : gI s1 153 38 = nI 1) (lt : ¬ nI bf < nI v) (tl : f_X12_tell fu 153 (nI 3) (nI (pl b n t)) s1 = some s2) : f_X12_cue fu 153 (nI bf) (nI k) st = b_X12_cue_42 fu 153 (nI k) (nI v) s2 := by
  unfold f_X12_cue
  rw [tp_153_4 hT, ck_t (by decide), ck_t (show (kd 153).1 = 12 from rfl), bd_e, ck_t (show (kd 153).1 = 12 from rfl), g5, ck_t (in157 g4), show ix (nI t) = t from ix_nI (by omega), g7, bd_e, ck_t (show (kd 153).1 = 12 from rfl), e1, ca_s, ck_t (show (kd 153).1 = 12 from rfl), i8, if_pos (show nI 0 = 0 from rfl), ck_t (show (kd 153).1 = 12 from rfl), i38, if_neg (show ¬ nI 1 = 0 by decide), if_neg lt, ck_t (show (kd 153).1 = 12 from rfl), show f_X12_tell fu 153 3 (nI (pl b n t)) s1 = some s2 from tl, cv_s]
set_option maxHeartbeats 8000000 in
theorem cue_p {st : St} (hT : Top st) {b : BY} {n T t : Nat} (h : RS b n T t st) {fu : Nat} (hf : 9000 ≤ fu) {c a : Nat} {D : LD} (hc : c < 60) (hL : LOK c a D) (hR : RRs c a D st) (hso : so b n (t - 1) ≠ 46) : ∃ v u, f_X12_cue fu 153 (nI (if c = 0 then 0 else D 0 (c - 1))) (nI c) st = some (nI v, u) ∧ v ≤ 20000000 ∧ Fr Wq st u ∧ Top u ∧ (∃ a', a' ≤ 300 ∧ gI u 153 35 = nI a') ∧ RO b n T (T - t - 1) (pCueT b n c a D t) (fun x => RRs (c + 1) x.1 x.2 u ∧ v = x.2 0 c) u := by
  obtain ⟨g5, g4, g6, g7, g8, g9, g10, g11, g12⟩ := h.rd
  have tn := h.1.2.2.2.2.1
  have n4 := h.1.2.2.2.2.2
  have a3 := hL.2.1
  obtain ⟨R1, R2, R3, R4, R5⟩ := hR
  obtain ⟨v, s1, e1, l1, fr1, hT1, co1, bad1⟩ := name_p hT h fu
  have q35 : gI s1 153 35 = nI a := by rw [fr1.ki 153 35 (by decide)]; exact R1
  obtain ⟨bf, hbf⟩ : ∃ bf, bf = if c = 0 then 0 else D 0 (c - 1) := ⟨_, rfl⟩
  have bfl : bf ≤ 99999 := by
    rw [hbf]
    by_cases c0 : c = 0
    · rw [if_pos c0]; omega
    · rw [if_neg c0]; exact (hL.2.2.2.2.1 (c - 1) (by omega)).1.2.1
  rw [← hbf]
  unfold pCueT
  have dead : ∀ f p s2, f_X12_cue fu 153 (nI bf) (nI c) st = b_X12_cue_42 fu 153 (nI c) (nI v) s2 → Fr Wq st s2 → Top s2 → DM b n T f p (T - t - 1) s2 → gI s2 153 35 = nI a → ∃ v u, f_X12_cue fu 153 (nI bf) (nI c) st = some (nI v, u) ∧ v ≤ 20000000 ∧ Fr Wq st u ∧ Top u ∧ (∃ a', a' ≤ 300 ∧ gI u 153 35 = nI a') ∧ DM b n T f p (T - t - 1) u := fun f p s2 e fr hT2 d k35 => by
    obtain ⟨u, r1, r2, r3, r4, r5⟩ := c42_D hT2 d hf (by omega) (v := v) hc ⟨a, a3, k35⟩
    exact ⟨v, u, by rw [e]; exact r1, l1, fr.tt r2, r3, r5, r4⟩
  cases hp : pName b n t with
  | inr e' =>
    rw [hp] at co1
    have hc1 := bad1 e' hp
    exact dead e'.1 e'.2 s1 (cue_42 hT fu g5 g4 g7 e1 (by rcases hc1 with q | q; exact Or.inl q; exact Or.inr (Or.inl q))) (Wq_p (Wp_6 fr1)) hT1 co1 q35
  | inl x =>
    obtain ⟨nm, t1⟩ := x
    rw [hp] at co1
    obtain ⟨d1, hv, i38⟩ := co1
    have hv : v = nm := hv
    subst hv
    have d1 : RS b n T t1 s1 := d1
    obtain ⟨p1, p2, p3, p4⟩ := pName_i hp
    have i38 := i38 (Or.inr hso)
    have i8 := d1.2.2.2.2.2.2.2.1
    rw [pb_i]
    by_cases ord : 0 < c ∧ v ≤ D 0 (c - 1)
    · rw [if_pos ord]
      have s0 : so b n t ≠ 0 := by omega
      have := pl_s s0
      have := pl_le (b := b) (n := n) (show t + 1 ≤ t1 by omega)
      obtain ⟨s2, x1, x2, x3, x4⟩ := tell_S hT1 d1 fu (k := 3) (q := pl b n t) (by omega) (by omega) (by omega)
      have bfe : bf = D 0 (c - 1) := by rw [hbf, if_neg (by omega)]
      exact dead 3 (pl b n t) s2 (cue_3 hT fu g5 g4 g7 e1 i8 i38 (fun q => by have := (nI_ltI (a := bf) (b := v) (by omega) (by omega)).mp q; omega) x1) ((Wq_p (Wp_6 fr1)).tt (Wq_x (Wx_5 x2))) x3 (x4.mono (by omega)) (by rw [(W5_k x2).1]; exact q35)
    · rw [if_neg ord]
      have lt : nI bf < nI v := (nI_ltI (by omega) (by omega)).mpr (by
        rw [hbf]
        by_cases c0 : c = 0
        · rw [if_pos c0]; omega
        · rw [if_neg c0]; omega)
      have hd := cue_42 hT (k := c) fu g5 g4 g7 e1 (Or.inr (Or.inr lt))
      have frw := w6_h s1 c (nI v)
      have d0 : RS b n T t1 (w6 s1 c (nI v)) := RfA.same d1 (rf_h frw)
      have U0 : RU (c + 1) (hd0 D c v) (w6 s1 c (nI v)) := w6_U (fun x hx k hk => by rw [fr1.fi (171 + k) (by simp [W6]; omega)]; exact R2 x hx k hk)
      obtain ⟨r, u1, s2, y1, y2, y3, y4, y5, co2⟩ := opts_s (b := b) (n := n) (T := T) hf (a := a) hc 7 fu 0 t1 (hd0 D c v) (w6 s1 c (nI v)) rfl (by omega) (by omega) (hT1.r rfl) d0 U0 (fun hh => by exact absurd hh (by decide))
      have y1' : f_X12_options fu 153 (nI c) (w6 s1 c (nI v)) = some (nI r, u1) := y1
      have k35 : gI s2 153 35 = nI a := by rw [y4.ki 153 35 (by decide), frw.ki 153 35 (by decide)]; exact q35
      obtain ⟨bl, hbl⟩ : ∃ bl, bl = if r = 1 ∨ c = 0 then 1 else 0 := ⟨_, rfl⟩
      have bl1 : bl ≤ 1 := by rw [hbl]; by_cases c : r = 1 ∨ c = 0 <;> simp [c]
      have bl0 : bl = 0 → 1 ≤ c := fun e => by
        by_cases c : r = 1 ∨ c = 0
        · rw [if_pos c] at hbl; omega
        · omega
      obtain ⟨s3, e3, fr3, hT3, v178, v177, v184⟩ := c102 y5 fu (by omega) hc (nI v) (nI bl) y3 k35
      have j35 : gI s3 153 35 = nI a := by rw [fr3.ki 153 35 (by decide)]; exact k35
      have hd2 : f_X12_cue fu 153 (nI bf) (nI c) st = b_X12_cue_151 fu fu 153 (nI c) (nI v) (nI bl) s3 := by
        rw [hd, c42 hT1 fu hc y2 (nI v) y1', ← hbl, e3]
      have fr3' : Fr Wq st s3 := (Wq_p ((Wp_6 fr1).tt ((w6_fr s1 c (nI v)).tt y4))).tt (Wq_3 fr3)
      cases hp2 : pOpts b n c a 7 0 (hd0 D c v) t1 with
      | inr e' =>
        rw [hp2] at co2
        obtain ⟨s4, z1, z2, z3, z4, z5⟩ := c151_D hf hc (nI v) (nI bl) fu (T - t1 - 1) s3 (by omega) (by omega) hT3 (DM.same co2 (rf_3 fr3)) ⟨a, a3, j35⟩
        obtain ⟨u, f1, f2, f3, -⟩ := c195 (fu := fu) hc bl1 bl0 (nI v) fu 1 s4 z3 (by omega) (by omega) (by omega)
        obtain ⟨a', w1, w2⟩ := z5
        exact ⟨v, u, by rw [hd2, z1]; exact f1, l1, fr3'.tt ((Wq_x z2).tt (Wq_9 f2)), f3, ⟨a', w1, by rw [f2.ki 153 35 (by decide)]; exact w2⟩, DM.same (DM.mono z4 (by omega)) (rf_9' f2)⟩
      | inl y =>
        obtain ⟨D2, t2⟩ := y
        rw [hp2] at co2
        obtain ⟨d2, U2, b1, b0, -⟩ := co2
        have d2 : RS b n T t2 s2 := d2
        have U2 : RU (c + 1) D2 s2 := U2
        have b1 : r = 1 → D2 6 c = a := b1
        have b0 : r = 0 → D2 6 c = hd0 D c v 6 c := b0
        obtain ⟨o1, o2, o3, o4, o5, o6⟩ := pOpts_D hp2
        have o1' : ∀ j i, 7 ≤ j ∨ i ≠ c → D2 j i = D j i := fun j i hj => by rw [o1 j i hj, hd0_o _ _ _ hj]
        rw [pb_i]
        have A3 : AR c a (gI st 177) a D2 s3 := by
          refine ⟨j35, fun i hi => ?_, ⟨by rw [v177, if_pos rfl, Nat.sub_self], fun i hi => ?_⟩, Nat.le_refl _, fun x x1 x2 => ?_⟩
          · rw [fr3.fi 180 (by decide), fr3.fi 181 (by decide), fr3.fi 182 (by decide), y4.fi 180 (by decide), y4.fi 181 (by decide), y4.fi 182 (by decide), frw.fi 180 (by decide), frw.fi 181 (by decide), frw.fi 182 (by decide), fr1.fi 180 (by decide), fr1.fi 181 (by decide), fr1.fi 182 (by decide), o1' 8 i (by omega), o1' 9 i (by omega), o1' 10 i (by omega)]
            exact R3 i hi
          · rw [v177, if_neg hi, y4.fi 177 (by decide), frw.fi 177 (by decide), fr1.fi 177 (by decide)]
          · rw [v184 x x1 x2, scO_0 a (Nat.le_refl _)]
            exact ⟨rfl, fun _ hv => by cases hv⟩
        have d3 : RS b n T t2 s3 := RfA.same d2 (rf_3 fr3)
        obtain ⟨s4, z1, z2, z3, ⟨a1, w1, w2⟩, co4⟩ := c151_p hf (b := b) (n := n) (T := T) (lo := a) (E := gI st 177) hc (nI v) (nI bl) 4001 fu a t2 D2 s3 (by omega) (by omega) hT3 d3 A3 a3
        obtain ⟨u, f1, f2, f3, f4, f5⟩ := c195 (fu := fu) hc bl1 bl0 (nI v) fu 1 s4 z3 (by omega) (by omega) (by omega)
        refine ⟨v, u, by rw [hd2, z1]; exact f1, l1, fr3'.tt ((Wq_x z2).tt (Wq_9 f2)), f3, ⟨a1, w1, by rw [f2.ki 153 35 (by decide)]; exact w2⟩, ?_⟩
        cases hp3 : pActs b n 4001 a D2 t2 with
        | inr e' =>
          rw [hp3] at co4
          exact DM.same (DM.mono co4 (by omega)) (rf_9' f2)
        | inl z =>
          obtain ⟨⟨a', D3⟩, t3⟩ := z
          rw [hp3] at co4
          obtain ⟨d4, A4⟩ := co4
          have d4 : RS b n T t3 s4 := d4
          have A4 : AR c a (gI st 177) a' D3 s4 := A4
          obtain ⟨k1, k2, ⟨k3, k3'⟩, k4, k5⟩ := A4
          obtain ⟨m1, m2, m3, m4, m5, m6⟩ := pActs_D hp3
          have m1 : ∀ j i, j < 8 ∨ i < a → D3 j i = D2 j i := m1
          have L7 := hL.2.2.2.1
          refine ⟨RfA.same d4 (rf_9' f2), ⟨by rw [f2.ki 153 35 (by decide)]; exact k1, fun x hx k hk => ?_, fun i hi => ?_, fun i hi => ?_, fun i hi ch hch => ?_⟩, ?_⟩
          · show gI u (171 + k) x = nI (st1 D3 7 (c + 1) a' k x)
            rw [st1_n _ _ (by omega), m1 k x (by omega), f2.fi (171 + k) (by simp <;> omega), z2.fi (171 + k) (by simp [Wx] <;> omega), fr3.fi (171 + k) (by simp <;> omega)]
            exact U2 x hx k hk
          · show gI u 180 i = nI (rk (st1 D3 7 (c + 1) a' 8 i)) ∧ gI u 181 i = nI (st1 D3 7 (c + 1) a' 9 i) ∧ gI u 182 i = nI (if st1 D3 7 (c + 1) a' 8 i = 0 then 0 else st1 D3 7 (c + 1) a' 10 i)
            rw [st1_n _ _ (by omega), st1_n _ _ (by omega), st1_n _ _ (by omega), f2.fi 180 (by decide), f2.fi 181 (by decide), f2.fi 182 (by decide)]
            exact k2 i hi
          · show gI u 178 i = nI (st1 D3 7 (c + 1) a' 7 i) ∧ gI u 177 i = nI (st1 D3 7 (c + 1) a' 7 (i + 1) - st1 D3 7 (c + 1) a' 7 i)
            rw [st1_n (x := 7) (y := i) _ _ (by omega), m1 7 i (by omega), o1' 7 i (by omega), f2.fi 178 (by decide), f2.fi 177 (by decide), z2.fi 178 (by decide), v178]
            by_cases e : i = c
            · subst e
              rw [if_pos rfl, st1_e, k3, L7]
              exact ⟨rfl, rfl⟩
            · rw [if_neg e, k3' i e, st1_n _ _ (by omega), m1 7 (i + 1) (by omega), o1' 7 (i + 1) (by omega), y4.fi 178 (by decide), frw.fi 178 (by decide), fr1.fi 178 (by decide)]
              exact R4 i (by omega)
          · show gI u 179 (65 * i + (ch + 1)) = nI (trk (st1 D3 7 (c + 1) a') i ch)
            obtain ⟨tr1, tr2, tr3⟩ := trk_new (a' := a') hL o1' m1 m4 ch
            have s9 : gI s4 179 = gI st 179 := by rw [z2.fi 179 (by decide), fr3.fi 179 (by decide), y4.fi 179 (by decide), frw.fi 179 (by decide), fr1.fi 179 (by decide)]
            by_cases e : i = c
            · subst e
              rw [f4 (ch + 1) (by omega) (by omega), s9]
              obtain ⟨q1, q2⟩ := k5 (ch + 1) (by omega) (by omega)
              rw [show ch + 1 - 1 = ch by omega] at q1 q2
              rw [q1]
              have h6 : (bl = 1 → D2 6 i = a ∨ (i = 0 ∧ D2 6 i = 0)) ∧ (bl = 0 → 0 < i ∧ D2 6 i = D 6 (i - 1)) := by
                refine ⟨fun e1 => ?_, fun e1 => ?_⟩
                · by_cases r1 : r = 1
                  · exact Or.inl (b1 r1)
                  · have r0 : r = 0 := by omega
                    have i0 : i = 0 := by
                      apply Classical.byContradiction
                      intro hi0
                      rw [if_neg (by omega)] at hbl
                      omega
                    exact Or.inr ⟨i0, by rw [b0 r0, hd0_6, if_pos i0]⟩
                · have i1 := bl0 e1
                  have r0 : r = 0 := by
                    apply Classical.byContradiction
                    intro hr
                    rw [if_pos (by omega)] at hbl
                    omega
                  exact ⟨by omega, by rw [b0 r0, hd0_6, if_neg (by omega)]⟩
              cases hs : scO D3 ch a a' with
              | some w =>
                rw [hs] at q2 tr2 tr3
                rw [if_neg (show ¬ nI (some w).isSome.toNat = nI 0 from (by show ¬ nI 1 = nI 0; decide)), q2 w rfl]
                by_cases e1 : bl = 1
                · rcases h6.1 e1 with q | ⟨q, q'⟩
                  · rw [tr2 q]; rfl
                  · have a0 : a = 0 := by rw [← L7, q]; exact hL.2.2.1
                    rw [tr2 (by rw [q', a0])]; rfl
                · obtain ⟨i1, q⟩ := h6.2 (by omega)
                  rw [tr3 i1 q]; rfl
              | none =>
                rw [hs] at tr2 tr3
                rw [if_pos (show nI (none : Option Nat).isSome.toNat = nI 0 from rfl)]
                by_cases e1 : bl = 1
                · rw [if_pos e1]
                  rcases h6.1 e1 with q | ⟨q, q'⟩
                  · rw [tr2 q]; rfl
                  · have a0 : a = 0 := by rw [← L7, q]; exact hL.2.2.1
                    rw [tr2 (by rw [q', a0])]; rfl
                · rw [if_neg e1]
                  obtain ⟨i1, q⟩ := h6.2 (by omega)
                  rw [tr3 i1 q, R5 (i - 1) (by omega) ch hch]; rfl
            · rw [f5 _ (by omega), s9, tr1 i (by omega)]
              exact R5 i (by omega) ch hch
          · show v = st1 D3 7 (c + 1) a' 0 c
            rw [st1_n _ _ (by omega), m1 0 c (by omega), o2, hd0_0]
