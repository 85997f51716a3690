/-! PURE: shares: the text, in the reference: terms -/
def S_rf : List PL := [(153, some 5), (153, some 6), (153, some 7), (153, some 8), (155, none), (156, none), (157, none)]
theorem RfA.same {b : BY} {n T t f p s : Nat} {st u : St} (h : RfA b n T t f p s st) (hs : Same S_rf st u) : RfA b n T t f p s u := by
  have e5 := hs.fi (o := 155) (by decide)
  have e7 := hs.fi (o := 157) (by decide)
  have e6 := hs.fl (o := 156) (by decide)
  have i5 := hs.i (o := 153) (k := 5) (by decide)
  have i6 := hs.i (o := 153) (k := 6) (by decide)
  have i7 := hs.i (o := 153) (k := 7) (by decide)
  have i8 := hs.i (o := 153) (k := 8) (by decide)
  unfold RfA RTx RDt at h ⊢
  rw [e5, e7, e6, i5, i6, i7, i8]
  exact h
def WPs : List PL := [(153, some 5), (153, some 6), (153, some 7), (153, some 8), (246, none), (247, none), (248, none)]
def WPa : List PL := [(246, none), (247, none), (248, none)]
theorem WP_t {a b c : St} (h1 : Fr WPs a b) (h2 : Fr WPs b c) : Fr WPs a c := (h1.tr h2).wd (by decide)
theorem WP_5 {a b : St} (h : Fr W5 a b) : Fr WPs a b := h.wd (by decide)
theorem WP_a {a b : St} (h : Fr WPa a b) : Fr WPs a b := h.wd (by decide)
theorem WPl (a : St) {o : Nat} (ho : o = 246 ∨ o = 247 ∨ o = 248) (k : Nat) (v : Int64) : Fr WPa a (sL a o k v) := by
  rcases ho with rfl | rfl | rfl
  · exact (Fr.l a 246 k v).wd (by simp [within', WPa])
  · exact (Fr.l a 247 k v).wd (by simp [within', WPa])
  · exact (Fr.l a 248 k v).wd (by simp [within', WPa])
set_option maxRecDepth 100000 in
theorem WPa_rf {a b : St} (h : Fr WPa a b) : Same S_rf a b := h.same (by decide)
set_option maxRecDepth 100000 in
theorem WP_top {a b : St} (hT : Top a) (h : Fr WPs a b) : Top b := hT.fr (h.same (by decide))
def SrA (A : Nat → Nat) (st : St) : Prop := ∀ p, p < 3 → gL st 246 p = lN (A (5 * p + 3)) ∧ gL st 248 p = lN (A (5 * p + 4)) ∧ ∀ k, k < 3 → gL st 247 (3 * p + k) = lN (A (5 * p + k))
theorem SrA.w5 {A : Nat → Nat} {a b : St} (h : SrA A a) (fr : Fr W5 a b) : SrA A b := fun p hp => by
  have e : ∀ o k, (o = 246 ∨ o = 247 ∨ o = 248) → gL b o k = gL a o k := fun o k ho => fr.kl o k (by rcases ho with rfl | rfl | rfl <;> simp [W5, covers])
  obtain ⟨h1, h2, h3⟩ := h p hp
  refine ⟨by rw [e _ _ (by omega)]; exact h1, by rw [e _ _ (by omega)]; exact h2, fun k hk => by rw [e _ _ (by omega)]; exact h3 k hk⟩
/-- the cell and the place of term k of party p -/
abbrev tC (k : Nat) : Nat := if k = 4 then 248 else if k = 3 then 246 else 247
abbrev tK (p k : Nat) : Nat := if k = 4 then p else if k = 3 then p else 3 * p + k
theorem SrA.add {A : Nat → Nat} {a : St} (h : SrA A a) {p k v : Nat} (hp : p ≤ 2) (hk : k ≤ 4) : SrA (ad A (5 * p + k) v) (sL a (tC k) (tK p k) (gL a (tC k) (tK p k) + lN v)) := fun x hx => by
  have e : ∀ y, ad A (5 * p + k) v y = if y = 5 * p + k then A y + v else A y := fun _ => rfl
  obtain ⟨h1, h2, h3⟩ := h x hx
  rw [e, e]
  have k5 : k = 4 ∨ k = 3 ∨ k ≤ 2 := by omega
  rcases k5 with rfl | rfl | k5
  · rw [show tC 4 = 248 from rfl, show tK p 4 = p from rfl]
    refine ⟨?_, ?_, fun j hj => ?_⟩
    · rw [gL_sL, if_neg (by simp), if_neg (by omega)]; exact h1
    · rw [gL_sL]
      by_cases q : x = p
      · subst q; simp; rw [h2, lN_add]
      · rw [if_neg (by simp; exact q), if_neg (by omega)]; exact h2
    · rw [gL_sL, if_neg (by simp), e, if_neg (by omega)]; exact h3 j hj
  · rw [show tC 3 = 246 from rfl, show tK p 3 = p from rfl]
    refine ⟨?_, ?_, fun j hj => ?_⟩
    · rw [gL_sL]
      by_cases q : x = p
      · subst q; simp; rw [h1, lN_add]
      · rw [if_neg (by simp; exact q), if_neg (by omega)]; exact h1
    · rw [gL_sL, if_neg (by simp), if_neg (by omega)]; exact h2
    · rw [gL_sL, if_neg (by simp), e, if_neg (by omega)]; exact h3 j hj
  · have c1 : tC k = 247 := by show (if k = 4 then 248 else if k = 3 then 246 else 247) = 247; rw [if_neg (by omega), if_neg (by omega)]
    have c2 : tK p k = 3 * p + k := by show (if k = 4 then p else if k = 3 then p else 3 * p + k) = _; rw [if_neg (by omega), if_neg (by omega)]
    rw [c1, c2]
    refine ⟨?_, ?_, fun j hj => ?_⟩
    · rw [gL_sL, if_neg (by omega), if_neg (by omega)]; exact h1
    · rw [gL_sL, if_neg (by omega), if_neg (by omega)]; exact h2
    · rw [gL_sL, e]
      by_cases q : x = p ∧ j = k
      · obtain ⟨rfl, rfl⟩ := q
        rw [if_pos ⟨rfl, rfl⟩, if_pos rfl, h3 j hj, lN_add]
      · rw [if_neg (by omega), if_neg (by omega)]; exact h3 j hj
theorem tm103 {s : St} (fu : Nat) {p k v : Nat} (hp : p ≤ 2) (hk : k ≤ 2) (hv : v ≤ 100000) : b_X12_term_103 fu (nI v) 247 (nI (3 * p)) (nI k) s = some (sL s 247 (3 * p + k) (gL s 247 (3 * p + k) + lN v)) := by
  simp (disch := first | decide | omega) [b_X12_term_103, b_X12_term_124, ck_tt, NP, NF, NC, NB, NS, kdR, LF]
/-- the term behind its sign, whatever stands: what is asked of needWord, takeWord and number is enough -/
theorem term40 {s s1 s2 : St} (hT1 : Top s1) (hT2 : Top s2) (fu : Nat) {p v r : Nat} (hp : p ≤ 2) (hv : v ≤ 100000) (hr : r ≤ 1) (w1 : f_X12_needWord fu 153 22 s = some s1) (w2 : f_X12_takeWord fu 153 23 s1 = some (nI r, s2)) : (r = 1 → b_X12_term_40 fu 153 (nI p) (nI v) s = some (sL s2 246 p (gL s2 246 p + lN v))) ∧ (∀ s3 k, r = 0 → Top s3 → k ≤ 100000 → f_X12_number fu 153 (nI 0) (nI 2) s2 = some (nI k, s3) → b_X12_term_40 fu 153 (nI p) (nI v) s = some (sL s3 247 (3 * p + (if k ≤ 2 then k else 0)) (gL s3 247 (3 * p + (if k ≤ 2 then k else 0)) + lN v))) := by
  refine ⟨fun e => ?_, fun s3 k e hT3 hk w3 => ?_⟩
  · subst e
    have hT := hT2
    simp (disch := first | decide | omega) [isb, ck_tt, NP, NF, NC, NB, NS, GS, kdR, tpR hT, b_X12_term_40, b_X12_term_124, w1, w2, LF]
  · subst e
    have hT := hT3
    by_cases k2 : k ≤ 2
    · rw [if_pos k2]
      have e := tm103 (s := s3) fu hp k2 hv
      simp (disch := first | decide | omega) [isb, ck_tt, NP, NF, NC, NB, NS, GS, kdR, tpR hT, b_X12_term_40, b_X12_term_102, w1, w2, w3, e]
    · rw [if_neg k2]
      have e := tm103 (s := s3) fu (k := 0) hp (by omega) hv
      simp (disch := first | decide | omega) [isb, ck_tt, NP, NF, NC, NB, NS, GS, kdR, tpR hT, b_X12_term_40, b_X12_term_102, w1, w2, w3]
      exact e
theorem place_r {st : St} {b : BY} {n T t f p s : Nat} (h : RfA b n T t f p s st) : gI st 157 t = nI (pl b n t) ∧ t ≤ 4000 ∧ gI st 153 5 = nI t := by
  have a := (h.1.sot h.2.2.1).2.1
  have := h.2.2.1
  have := h.1.2.2.2.2.1
  have := h.1.2.2.2.2.2
  exact ⟨a, by omega, h.2.1⟩
/-- dead, through the rest of a term -/
theorem t40_d {s : St} (hT : Top s) {b : BY} {n T f p t' s' : Nat} (h : RfD b n T f p t' s' s) {fu : Nat} (hf : 100 ≤ fu) {pp v : Nat} (hp : pp ≤ 2) (hv : v ≤ 100000) : ∃ u t2 s2, b_X12_term_40 fu 153 (nI pp) (nI v) s = some u ∧ Fr WPs s u ∧ Top u ∧ RfD b n T f p t2 s2 u ∧ t' ≤ t2 := by
  obtain ⟨a, a1, a2⟩ := needW_d hT h hf (w := 22) (by omega) (by omega)
  obtain ⟨ta, sa, fra, hTa, hDa, tle⟩ : ∃ ta sa, Fr W5 s a ∧ Top a ∧ RfD b n T f p ta sa a ∧ t' ≤ ta := by
    rcases a2 with ⟨-, x1, x2, x3⟩ | ⟨x1, x2, x3⟩
    · exact ⟨_, _, x1, x2, x3, by omega⟩
    · exact ⟨_, _, x1, x2, x3, by omega⟩
  obtain ⟨c, c1⟩ := takeW_d hTa hDa hf (w := 23) (by omega) (by omega)
  rcases c1 with ⟨c1, -, x1, x2, x3⟩ | ⟨c1, x1, x2, x3⟩
  · obtain ⟨e1, -⟩ := term40 hTa x2 fu (p := pp) (v := v) (r := 1) hp hv (by omega) a1 c1
    have fa := WPl c (o := 246) (by omega) pp (gL c 246 pp + lN v)
    have fr := WP_t (WP_5 (W5t fra x1)) (WP_a fa)
    exact ⟨_, _, _, e1 rfl, fr, WP_top hT fr, ⟨x3.1.same (WPa_rf fa), x3.2⟩, by omega⟩
  · obtain ⟨d, k, k1, d1, d2⟩ := num_d x2 x3 fu (lo := 0) (hi := 2) (by omega) (by omega)
    obtain ⟨td, sd, frd, hTd, hDd, tle2⟩ : ∃ td sd, Fr W5 c d ∧ Top d ∧ RfD b n T f p td sd d ∧ ta ≤ td := by
      rcases d2 with ⟨-, y1, y2, y3⟩ | ⟨y1, y2, y3⟩
      · exact ⟨_, _, y1, y2, y3, by omega⟩
      · exact ⟨_, _, y1, y2, y3, by omega⟩
    obtain ⟨-, e1⟩ := term40 hTa x2 fu (p := pp) (v := v) (r := 0) hp hv (by omega) a1 c1
    have fa := WPl d (o := 247) (by omega) (3 * pp + (if k ≤ 2 then k else 0)) (gL d 247 (3 * pp + (if k ≤ 2 then k else 0)) + lN v)
    have fr := WP_t (WP_5 (W5t (W5t fra x1) frd)) (WP_a fa)
    exact ⟨_, _, _, e1 d k rfl hTd k1 d1, fr, WP_top hT fr, ⟨hDd.1.same (WPa_rf fa), hDd.2⟩, by omega⟩
theorem term_d {st : St} (hT : Top st) {b : BY} {n T f p t s : Nat} (h : RfD b n T f p t s st) {fu : Nat} (hf : 100 ≤ fu) {pp : Nat} (hp : pp ≤ 2) : ∃ u t' s', f_X12_term fu 153 (nI pp) st = some u ∧ Top u ∧ Fr WPs st u ∧ RfD b n T f p t' s' u ∧ t ≤ t' ∧ (s' = 0 → t + 1 ≤ t') := by
  obtain ⟨g1, g2, g3⟩ := place_r h.1
  obtain ⟨a, v, v1, a1, a2⟩ := num_d hT h fu (lo := 0) (hi := 99999) (by omega) (by omega)
  obtain ⟨ta, sa, fra, hTa, hDa, hcase⟩ : ∃ ta sa, Fr W5 st a ∧ Top a ∧ RfD b n T f p ta sa a ∧ ((s = 0 ∧ sa = 0 ∧ ta = t + 1) ∨ (sa = 1 ∧ ta = t)) := by
    rcases a2 with ⟨e, x1, x2, x3⟩ | ⟨x1, x2, x3⟩
    · exact ⟨_, _, x1, x2, x3, Or.inl ⟨e, rfl, rfl⟩⟩
    · exact ⟨_, _, x1, x2, x3, Or.inr ⟨rfl, rfl⟩⟩
  obtain ⟨c, c1⟩ := takeS_d hTa hDa fu (c := 37) (by omega) (by omega)
  rcases c1 with ⟨c1, c0, x1, x2, x3⟩ | ⟨c1, x1, x2, x3⟩
  · obtain ⟨e0, -, et⟩ : s = 0 ∧ sa = 0 ∧ ta = t + 1 := by omega
    have plt : p < pl b n t := by have := h.2.2; omega
    obtain ⟨u, t2, s2, u1, u2, u3, u4, u5⟩ := t40_d x2 x3 hf (pp := pp) (v := v) hp v1
    refine ⟨u, t2, s2, ?_, u3, WP_t (WP_5 (W5t fra x1)) u2, u4, by omega, fun _ => by omega⟩
    have tn := tell_n x2 x3 fu (k := 2) (q := pl b n t) (by omega) (by omega) (pl_b b n t).2 plt
    clear h hDa x3 u4
    by_cases q : v ≤ 100
    · simp (disch := first | decide | omega) [isb, ck_tt, NP, NF, NC, NB, NS, GS, kdR, tpR hT, f_X12_term, g1, g3, a1, c1, u1]
    · simp (disch := first | decide | omega) [isb, ck_tt, NP, NF, NC, NB, NS, GS, kdR, tpR hT, f_X12_term, g1, g3, a1, c1, tn, u1]
  · have fa := WPl c (o := 248) (by omega) pp (gL c 248 pp + lN v)
    have fr := WP_t (WP_5 (W5t fra x1)) (WP_a fa)
    refine ⟨sL c 248 pp (gL c 248 pp + lN v), ta, sa, ?_, WP_top hT fr, fr, ⟨x3.1.same (WPa_rf fa), x3.2⟩, by omega, fun _ => by omega⟩
    have hTc := x2
    clear h hDa x3 fa fr
    simp (disch := first | decide | omega) [isb, ck_tt, NP, NF, NC, NB, NS, GS, kdR, tpR hT, f_X12_term, b_X12_term_124, g1, g3, a1, c1, tpR hTc, LF]
theorem term_s {st : St} (hT : Top st) {b : BY} {n T t : Nat} (h : RS b n T t st) {fu : Nat} (hf : 100 ≤ fu) {pp : Nat} (hp : pp ≤ 2) {A : Nat → Nat} (hA : SrA A st) : (∀ t' k v, TmOK b n t t' k v → k ≤ 4 → v ≤ 99999 → ∃ u, f_X12_term fu 153 (nI pp) st = some u ∧ Top u ∧ Fr WPs st u ∧ RS b n T t' u ∧ SrA (ad A (5 * pp + k) v) u) ∧ (∀ f p, TmBad b n t f p → ∃ u t' s', f_X12_term fu 153 (nI pp) st = some u ∧ Top u ∧ Fr WPs st u ∧ RfD b n T f p t' s' u ∧ t ≤ t' ∧ (s' = 0 → t + 1 ≤ t')) := by
  obtain ⟨g1, g2, g3⟩ := place_r h
  obtain ⟨N1, N2, N3⟩ := num_s hT h fu (lo := 0) (hi := 99999) (by omega) (by omega)
  refine ⟨fun t' k v ok k4 v9 => ?_, fun f p bad => ?_⟩
  · obtain ⟨s2, hv, ok⟩ := ok
    obtain ⟨a, a1, fra, hTa, hSa⟩ := N1 s2 (Nat.zero_le _) (nvt_99 s2)
    rw [← hv] at a1
    have hAa := hA.w5 fra
    obtain ⟨S1, S2⟩ := takeS_s hTa hSa fu (c := 37) (by omega) (by omega)
    rcases ok with ⟨s37, rfl, rfl⟩ | ⟨s37, v100, w22, ok⟩
    · obtain ⟨c, c1, frc, hTc, hSc⟩ := S2 s37
      have fa := WPl c (o := 248) (by omega) pp (gL c 248 pp + lN v)
      have fr := WP_t (WP_5 (W5t fra frc)) (WP_a fa)
      refine ⟨sL c 248 pp (gL c 248 pp + lN v), ?_, WP_top hT fr, fr, RfA.same hSc (WPa_rf fa), (hAa.w5 frc).add (k := 4) hp (by omega)⟩
      clear h hSa hSc N1 N2 N3 S1 S2 fa fr hA hAa
      simp (disch := first | decide | omega) [isb, ck_tt, NP, NF, NC, NB, NS, GS, kdR, tpR hT, f_X12_term, b_X12_term_124, g1, g3, a1, c1, tpR hTc, LF]
    · obtain ⟨c, c1, frc, hTc, hSc⟩ := S1 s37
      obtain ⟨d, d1, frd, hTd, hSd⟩ := (needW_s hTc hSc hf (w := 22) (by omega) (by omega)).1 w22
      obtain ⟨V1, V2⟩ := takeW_s hTd hSd hf (w := 23) (by omega) (by omega)
      have head : ∀ u, b_X12_term_40 fu 153 (nI pp) (nI v) c = some u → f_X12_term fu 153 (nI pp) st = some u := fun u hu => by
        clear h hSa hSc hSd N1 N2 N3 S1 S2 V1 V2 hA hAa
        simp (disch := first | decide | omega) [isb, ck_tt, NP, NF, NC, NB, NS, GS, kdR, tpR hT, f_X12_term, g1, g3, a1, c1, hu]
      rcases ok with ⟨w23, rfl, rfl⟩ | ⟨w23, s32, hk, k2, rfl⟩
      · obtain ⟨e, e1, fre, hTe, hSe⟩ := V1 w23
        obtain ⟨z, -⟩ := term40 hTd hTe fu (p := pp) (v := v) (r := 1) hp (by omega) (by omega) d1 e1
        have fa := WPl e (o := 246) (by omega) pp (gL e 246 pp + lN v)
        have fr := WP_t (WP_5 (W5t (W5t (W5t fra frc) frd) fre)) (WP_a fa)
        exact ⟨_, head _ (z rfl), WP_top hT fr, fr, RfA.same hSe (WPa_rf fa), (((hAa.w5 frc).w5 frd).w5 fre).add (k := 3) hp (by omega)⟩
      · obtain ⟨e, e1, fre, hTe, hSe⟩ := V2 w23
        obtain ⟨g, z1, frg, hTg, hSg⟩ := (num_s hTe hSe fu (lo := 0) (hi := 2) (by omega) (by omega)).1 s32 (Nat.zero_le _) (by rw [← hk]; exact k2)
        have z1' : f_X12_number fu 153 (nI 0) (nI 2) e = some (nI k, g) := by rw [hk]; exact z1
        obtain ⟨-, z⟩ := term40 hTd hTe fu (p := pp) (v := v) (r := 0) hp (by omega) (by omega) d1 e1
        have z2 := z g k rfl hTg (by omega) z1'
        rw [if_pos k2] at z2
        have fa := WPl g (o := 247) (by omega) (3 * pp + k) (gL g 247 (3 * pp + k) + lN v)
        have fr := WP_t (WP_5 (W5t (W5t (W5t (W5t fra frc) frd) fre) frg)) (WP_a fa)
        have ad := ((((hAa.w5 frc).w5 frd).w5 fre).w5 frg).add (k := k) (v := v) hp k4
        have c1' : tC k = 247 := by show (if k = 4 then 248 else if k = 3 then 246 else 247) = 247; rw [if_neg (by omega), if_neg (by omega)]
        have c2' : tK pp k = 3 * pp + k := by show (if k = 4 then pp else if k = 3 then pp else 3 * pp + k) = _; rw [if_neg (by omega), if_neg (by omega)]
        rw [c1', c2'] at ad
        exact ⟨_, head _ z2, WP_top hT fr, fr, RfA.same hSg (WPa_rf fa), ad⟩
  · rcases bad with ⟨s2, rfl, rfl⟩ | ⟨s2, s37, bad⟩
    · -- no number
      obtain ⟨a, a1, fra, hTa, hDa⟩ := N3 s2
      obtain ⟨c, c1⟩ := takeS_d hTa hDa fu (c := 37) (by omega) (by omega)
      rcases c1 with ⟨-, c0, -⟩ | ⟨c1, x1, x2, x3⟩
      · omega
      · have fa := WPl c (o := 248) (by omega) pp (gL c 248 pp + lN 0)
        have fr := WP_t (WP_5 (W5t fra x1)) (WP_a fa)
        refine ⟨sL c 248 pp (gL c 248 pp + lN 0), t, 1, ?_, WP_top hT fr, fr, ⟨x3.1.same (WPa_rf fa), x3.2⟩, Nat.le_refl _, fun e => by omega⟩
        have hTc := x2
        clear h hDa x3 fa fr N1 N2 N3 hA
        simp (disch := first | decide | omega) [isb, ck_tt, NP, NF, NC, NB, NS, GS, kdR, tpR hT, f_X12_term, b_X12_term_124, g1, g3, a1, c1, tpR hTc, LF]
    · obtain ⟨v, hv⟩ : ∃ v, v = nvt b n t := ⟨_, rfl⟩
      have v9 := nvt_99 s2
      obtain ⟨a, a1, fra, hTa, hSa⟩ := N1 s2 (Nat.zero_le _) v9
      rw [← hv] at a1 v9
      obtain ⟨c, c1, frc, hTc, hSc⟩ := (takeS_s hTa hSa fu (c := 37) (by omega) (by omega)).1 s37
      have p1 : pl b n t < pl b n (t + 2) := by
        have := pl_s (b := b) (n := n) (t := t) (by omega)
        have : pl b n (t + 1) ≤ pl b n (t + 2) := pl_m b n (t + 1)
        omega
      rcases bad with ⟨v100, rfl, rfl⟩ | ⟨v100, w22, rfl, rfl⟩ | ⟨v100, w22, w23, bad⟩
      · obtain ⟨d, d1, frd, hTd, hDd⟩ := tell_o hTc hSc fu (k := 2) (q := pl b n t) (by omega) (by omega) (pl_b b n t).2 (Or.inl rfl) (Or.inr p1)
        obtain ⟨u, t2, s2', u1, u2, u3, u4, u5⟩ := t40_d hTd hDd hf (pp := pp) (v := v) hp (by omega)
        refine ⟨u, t2, s2', ?_, u3, WP_t (WP_5 (W5t (W5t fra frc) frd)) u2, u4, by omega, fun _ => by omega⟩
        rw [← hv] at v100
        clear h hSa hSc hDd u4 N1 N2 N3 hA
        simp (disch := first | decide | omega) [isb, ck_tt, NP, NF, NC, NB, NS, GS, kdR, tpR hT, f_X12_term, g1, g3, a1, c1, d1, u1]
      · obtain ⟨d, d1, frd, hTd, hDd⟩ := (needW_s hTc hSc hf (w := 22) (by omega) (by omega)).2 w22
        rw [← hv] at v100
        have head : ∀ u, b_X12_term_40 fu 153 (nI pp) (nI v) c = some u → f_X12_term fu 153 (nI pp) st = some u := fun u hu => by
          clear h hSa hSc hDd N1 N2 N3 hA
          simp (disch := first | decide | omega) [isb, ck_tt, NP, NF, NC, NB, NS, GS, kdR, tpR hT, f_X12_term, g1, g3, a1, c1, hu]
        obtain ⟨e, e1⟩ := takeW_d hTd hDd hf (w := 23) (by omega) (by omega)
        rcases e1 with ⟨-, e0, -⟩ | ⟨e1, y1, y2, y3⟩
        · omega
        · obtain ⟨g, k, k1, z1, z2⟩ := num_d y2 y3 fu (lo := 0) (hi := 2) (by omega) (by omega)
          rcases z2 with ⟨z0, -⟩ | ⟨frg, hTg, hDg⟩
          · omega
          · obtain ⟨-, z⟩ := term40 hTd y2 fu (p := pp) (v := v) (r := 0) hp (by omega) (by omega) d1 e1
            have z3 := z g k rfl hTg k1 z1
            have fa := WPl g (o := 247) (by omega) (3 * pp + (if k ≤ 2 then k else 0)) (gL g 247 (3 * pp + (if k ≤ 2 then k else 0)) + lN v)
            have fr := WP_t (WP_5 (W5t (W5t (W5t (W5t fra frc) frd) y1) frg)) (WP_a fa)
            exact ⟨_, t + 2, 1, head _ z3, WP_top hT fr, fr, ⟨hDg.1.same (WPa_rf fa), hDg.2⟩, by omega, fun e => by omega⟩
      · obtain ⟨d, d1, frd, hTd, hSd⟩ := (needW_s hTc hSc hf (w := 22) (by omega) (by omega)).1 w22
        obtain ⟨e, e1, fre, hTe, hSe⟩ := (takeW_s hTd hSd hf (w := 23) (by omega) (by omega)).2 w23
        rw [← hv] at v100
        have head : ∀ u, b_X12_term_40 fu 153 (nI pp) (nI v) c = some u → f_X12_term fu 153 (nI pp) st = some u := fun u hu => by
          clear h hSa hSc hSd hSe N1 N2 N3 hA
          simp (disch := first | decide | omega) [isb, ck_tt, NP, NF, NC, NB, NS, GS, kdR, tpR hT, f_X12_term, g1, g3, a1, c1, hu]
        obtain ⟨-, z⟩ := term40 hTd hTe fu (p := pp) (v := v) (r := 0) hp (by omega) (by omega) d1 e1
        obtain ⟨-, M2, M3⟩ := num_s hTe hSe fu (lo := 0) (hi := 2) (by omega) (by omega)
        rcases bad with ⟨s32, rfl, rfl⟩ | ⟨s32, k2, rfl, rfl⟩
        · obtain ⟨g, z1, frg, hTg, hDg⟩ := M3 s32
          have z3 := z g 0 rfl hTg (by omega) z1
          have fa := WPl g (o := 247) (by omega) (3 * pp + (if 0 ≤ 2 then 0 else 0)) (gL g 247 (3 * pp + (if 0 ≤ 2 then 0 else 0)) + lN v)
          have fr := WP_t (WP_5 (W5t (W5t (W5t (W5t fra frc) frd) fre) frg)) (WP_a fa)
          exact ⟨_, t + 3, 1, head _ z3, WP_top hT fr, fr, ⟨hDg.1.same (WPa_rf fa), hDg.2⟩, by omega, fun e => by omega⟩
        · obtain ⟨g, z1, frg, hTg, hDg⟩ := M2 s32 (fun x => by have x2 : nvt b n (t + 3) ≤ 2 := x.2; omega)
          have z3 := z g (nvt b n (t + 3)) rfl hTg (nv_le _ _ _) z1
          have fa := WPl g (o := 247) (by omega) (3 * pp + (if nvt b n (t + 3) ≤ 2 then nvt b n (t + 3) else 0)) (gL g 247 (3 * pp + (if nvt b n (t + 3) ≤ 2 then nvt b n (t + 3) else 0)) + lN v)
          have fr := WP_t (WP_5 (W5t (W5t (W5t (W5t fra frc) frd) fre) frg)) (WP_a fa)
          exact ⟨_, t + 4, 0, head _ z3, WP_top hT fr, fr, ⟨hDg.1.same (WPa_rf fa), hDg.2⟩, by omega, fun _ => by omega⟩
