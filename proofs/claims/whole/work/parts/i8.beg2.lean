/-! PURE: a cue's acts, and a cue begins: class at u, reference at w -/
theorem PA2.tr {N : Nat} {lo : Nat → Nat} {sp : Nat} {Q C A : Nat → Nat} {DD : Nat → LD} {L : Nat → Option LK} {u w u1 w1 u2 w2 : St} (h1 : PA2 N lo sp Q C A DD L u w u1 w1) (h2 : PA2 N lo sp Q C A DD L u1 w1 u2 w2) : PA2 N lo sp Q C A DD L u w u2 w2 := ⟨h1.1.tt h2.1, h1.2.1.tt h2.2.1, h2.2.2⟩
theorem acts_l {N : Nat} {lo : Nat → Nat} {sp : Nat} {Q C A : Nat → Nat} {DD : Nat → LD} {L : Nat → Option LK} (hN : N ≤ 100000) {fu : Nat} (hf : 100 ≤ fu) {l i : Nat} (hl : l < 4) (hi : i < C l) (d : Nat) (rb : Nat → Int32 → St → Option St) : ∀ (k F F' t : Nat) (u w : St), DD l 7 i + t + k = DD l 7 (i + 1) → k < F → k < F' → A2 N lo sp Q C A DD L (mg u w) → Top u → Top w → ∃ u' w', b_X1_begin_145 fu F 24 (nI N) (Q l) (nI i) (nI (DD l 7 i + t)) u = some u' ∧ b_X12_begins_202 fu (F_X12_plays fu (d + 1)).1 rb F' 153 (nI l) (nI (l * 60 + i)) (nI t) w = some w' ∧ PA2 N lo sp Q C A DD L u w u' w' := by
  intro k
  induction k with
  | zero =>
    intro F F' t u w hk hF hF' h hTu hTw
    obtain ⟨F, rfl⟩ : ∃ x, F = x + 1 := ⟨F - 1, by omega⟩
    obtain ⟨F', rfl⟩ : ∃ x, F' = x + 1 := ⟨F' - 1, by omega⟩
    obtain ⟨S, -⟩ := h.s
    obtain ⟨s1, s2, s3, s4, s5⟩ := S l hl
    have qb := s2.b
    have c60 := s4.1
    have a300 := s4.2.1
    have d7 := (s4.d6 i hi).2
    have e8 : gI u (Q l + 8) (i + 1) = nI (DD l 7 (i + 1)) := s3.2.2.2 (i + 1) (by omega)
    obtain ⟨-, k5, k6, -⟩ := s5.2.1 i hi
    have qR := sqR s2 hTu
    have qK := sqK s2
    refine ⟨u, w, ?_, ?_, Fr.rf, Fr.rf, hTu, hTw, h⟩
    · show b_X1_begin_145_b fu (b_X1_begin_145 fu F) 24 (nI N) (Q l) (nI i) (nI (DD l 7 i + t)) u = some u
      clear h S s3 s4 s5
      have hT := hTu
      simp (disch := first | decide | omega) [↓bd_e, isb, ck_tt, NP, NF, NC, NB, NS, GS, kdC, tpC hT, b_X1_begin_145_b, qR, qK, e8]
    · show b_X12_begins_202_b fu _ rb (b_X12_begins_202 fu _ rb F') 153 (nI l) (nI (l * 60 + i)) (nI t) w = some w
      have e : DD l 7 (i + 1) - DD l 7 i = t := by omega
      rw [e] at k5
      clear h S s3 s4 s5
      have hT := hTw
      simp (disch := first | decide | omega) [↓bd_e, isb, ck_tt, NP, NF, NC, NB, NS, GS, kdR, tpR hT, b_X12_begins_202_b, k5]
  | succ k ih =>
    intro F F' t u w hk hF hF' h hTu hTw
    obtain ⟨F, rfl⟩ : ∃ x, F = x + 1 := ⟨F - 1, by omega⟩
    obtain ⟨F', rfl⟩ : ∃ x, F' = x + 1 := ⟨F' - 1, by omega⟩
    obtain ⟨S, -⟩ := h.s
    obtain ⟨s1, s2, s3, s4, s5⟩ := S l hl
    have qb := s2.b
    have c60 := s4.1
    have a300 := s4.2.1
    have d7 := (s4.d6 i hi).2
    have e8 : gI u (Q l + 8) (i + 1) = nI (DD l 7 (i + 1)) := s3.2.2.2 (i + 1) (by omega)
    have qR := sqR s2 hTu
    have qK := sqK s2
    obtain ⟨u1, w1, e1, e2, p1⟩ := act_2 h hTu hTw hN hf hl hi (t := t) (by omega) d
    obtain ⟨u2, w2, e3, e4, p2⟩ := ih F F' (t + 1) u1 w1 (by omega) (by omega) (by omega) p1.2.2.2.2 p1.2.2.1 p1.2.2.2.1
    refine ⟨u2, w2, ?_, ?_, p1.tr p2⟩
    · show b_X1_begin_145_b fu (b_X1_begin_145 fu F) 24 (nI N) (Q l) (nI i) (nI (DD l 7 i + t)) u = some u2
      rw [← e3, show DD l 7 i + (t + 1) = DD l 7 i + t + 1 by omega]
      obtain ⟨j, hj⟩ : ∃ j, j = DD l 7 i + t := ⟨_, rfl⟩
      obtain ⟨E, hE⟩ : ∃ E, E = DD l 7 (i + 1) := ⟨_, rfl⟩
      have jE : j < E := by omega
      have E3 : E ≤ 300 := by omega
      rw [← hj] at e1 ⊢
      rw [← hE] at e8
      clear h S s3 s4 s5 e2 e3 e4 p1 p2 ih hk hj hE d7
      have hT := hTu
      simp (disch := first | decide | omega) [↓bd_e, isb, ck_tt, NP, NF, NC, NB, NS, GS, kdC, tpC hT, b_X1_begin_145_b, qR, qK, e8, e1]
    · show b_X12_begins_202_b fu _ rb (b_X12_begins_202 fu _ rb F') 153 (nI l) (nI (l * 60 + i)) (nI t) w = some w2
      rw [e2]; exact e4
/-! channels, on their own -/
theorem PLc.X {l N : Nat} {m : St} (h : PLc l N m) : ∃ X, XB N X ∧ (∀ c, c < 64 → gI m (57 + 18 * l) c = nI (X 0 c) ∧ gI m (58 + 18 * l) c = nI (X 1 c) ∧ gI m (59 + 18 * l) c = nI (X 2 c) ∧ gI m (60 + 18 * l) c = nI (X 3 c)) ∧ ∀ c, c < 64 → PLr l N X c m := by
  have h2 : ∀ ch, ∃ y : Nat × Nat × Nat × Nat, ch < 64 → PLx l N ch y.1 y.2.1 y.2.2.1 y.2.2.2 m := fun ch => by
    by_cases c : ch < 64
    · obtain ⟨tg, s0, sn, sp, q⟩ := h.2 ch c
      exact ⟨(tg, s0, sn, sp), fun _ => q⟩
    · exact ⟨(0, 0, 0, 0), fun z => absurd z c⟩
  obtain ⟨f, hf⟩ := Classical.axiomOfChoice h2
  refine ⟨fun k ch => if k = 0 then (f ch).1 else if k = 1 then (f ch).2.1 else if k = 2 then (f ch).2.2.1 else (f ch).2.2.2, fun ch hc => ?_, fun ch hc => ?_, fun ch hc => ?_⟩
  · obtain ⟨a1, a2, a3, a4, -⟩ := hf ch hc
    exact ⟨a1, a2, a3, a4⟩
  · obtain ⟨-, -, -, -, b1, b2, b3, b4, -⟩ := hf ch hc
    exact ⟨b1, b2, b3, b4⟩
  · obtain ⟨-, -, -, -, -, -, -, -, c1, c2, c3, c4⟩ := hf ch hc
    exact ⟨c1, c2, c3, c4⟩
theorem PLc.of {l N : Nat} {m : St} {X : Nat → Nat → Nat} (h0 : gI m 194 (65 * l) = nI 0) (hB : XB N X) (h1 : ∀ c, c < 64 → gI m (57 + 18 * l) c = nI (X 0 c) ∧ gI m (58 + 18 * l) c = nI (X 1 c) ∧ gI m (59 + 18 * l) c = nI (X 2 c) ∧ gI m (60 + 18 * l) c = nI (X 3 c)) (h2 : ∀ c, c < 64 → PLr l N X c m) : PLc l N m := by
  refine ⟨h0, fun ch hc => ⟨X 0 ch, X 1 ch, X 2 ch, X 3 ch, ?_⟩⟩
  obtain ⟨a1, a2, a3, a4⟩ := hB ch hc
  obtain ⟨b1, b2, b3, b4⟩ := h1 ch hc
  obtain ⟨c1, c2, c3, c4⟩ := h2 ch hc
  exact ⟨a1, a2, a3, a4, b1, b2, b3, b4, c1, c2, c3, c4⟩
theorem PLc.e {l N : Nat} {m m' : St} (h : PLc l N m) (e1 : ∀ k, k < 4 → gI m' (57 + 18 * l + k) = gI m (57 + 18 * l + k)) (e2 : ∀ o, 190 ≤ o → o ≤ 194 → ∀ c, c ≤ 64 → gI m' o (65 * l + c) = gI m o (65 * l + c)) : PLc l N m' := by
  obtain ⟨X, hB, h1, h2⟩ := h.X
  have f0 := e1 0 (by omega)
  have f1 := e1 1 (by omega)
  have f2 := e1 2 (by omega)
  have f3 := e1 3 (by omega)
  simp only [Nat.add_zero] at f0
  rw [show 57 + 18 * l + 1 = 58 + 18 * l by omega] at f1
  rw [show 57 + 18 * l + 2 = 59 + 18 * l by omega] at f2
  rw [show 57 + 18 * l + 3 = 60 + 18 * l by omega] at f3
  refine PLc.of (X := X) ?_ hB (fun c hc => by rw [f0, f1, f2, f3]; exact h1 c hc) (fun c hc => ?_)
  · have := e2 194 (by omega) (by omega) 0 (by omega)
    rw [Nat.add_zero] at this
    rw [this]; exact h.1
  · have := h2 c hc
    unfold PLr at this ⊢
    rw [e2 190 (by omega) (by omega) (c + 1) (by omega), e2 191 (by omega) (by omega) (c + 1) (by omega), e2 192 (by omega) (by omega) (c + 1) (by omega), e2 193 (by omega) (by omega) (c + 1) (by omega), e2 194 (by omega) (by omega) (c + 1) (by omega)]
    exact this
theorem XB.nx {N : Nat} {X : Nat → Nat → Nat} (h : XB N X) {c a i : Nat} {D : LD} (hL : LOK c a D) (hi : i < c) : XB N (nxF D i N X) := fun ch hc => by
  obtain ⟨b0, b1, b2, b3⟩ := h ch hc
  have tb := trk_b hL hi ch
  have hh := LV_le (sp := X 3 ch) b2 b0 b1
  obtain ⟨-, -, d1, d2, -⟩ := (hL.2.2.2.2.1 i hi).1
  unfold nxF
  by_cases e : trk D i ch = X 0 ch
  · rw [if_pos e, if_pos e, if_pos e, if_pos e]; exact ⟨b0, b1, b2, b3⟩
  · rw [if_neg e, if_neg e, if_neg e, if_neg e, if_pos rfl, if_neg (by decide), if_pos rfl, if_neg (by decide), if_neg (by decide), if_pos rfl, if_neg (by decide), if_neg (by decide), if_neg (by decide)]
    refine ⟨tb, hh, Nat.le_refl _, ?_⟩
    by_cases q : LV (X 0 ch) (X 1 ch) (X 2 ch) (X 3 ch) N < trk D i ch
    · rw [if_pos q]; exact d1
    · rw [if_neg q]; exact d2
/-- all of lists, axes, events, locks -/
def B2 (N : Nat) (lo : Nat → Nat) (sp : Nat) (Q C A : Nat → Nat) (DD : Nat → LD) (L : Nat → Option LK) (m : St) : Prop := A2 N lo sp Q C A DD L m ∧ (∀ l, l < 4 → PLc l N m) ∧ PLo m
/-- the same, of list l its master alone -/
def B1 (N : Nat) (lo : Nat → Nat) (sp : Nat) (Q C A : Nat → Nat) (DD : Nat → LD) (L : Nat → Option LK) (l : Nat) (m : St) : Prop := (gI m 153 40 = nI N ∧ SCR sp Q C A DD m ∧ (∀ l', l' < 4 → l' ≠ l → lo l' ≤ N ∧ PLg l' (lo l') (N + 9999) (C l') m) ∧ P_ax m ∧ P_ev m ∧ P_cod m ∧ LCk L m ∧ LRk L m) ∧ (∃ v, v ≤ 255 ∧ gI m (43 + 18 * l) 9 = nI v ∧ gI m 189 l = nI v) ∧ (∀ l, l < 4 → PLc l N m) ∧ PLo m
theorem B2.one {N : Nat} {lo lo' : Nat → Nat} {sp : Nat} {Q C A : Nat → Nat} {DD : Nat → LD} {L : Nat → Option LK} {m : St} (h : B2 N lo sp Q C A DD L m) {l : Nat} (hl : l < 4) (e : ∀ l', l' ≠ l → lo' l' = lo l') : B1 N lo' sp Q C A DD L l m := by
  obtain ⟨⟨a1, a2, a3, a4⟩, h3, h4⟩ := h
  exact ⟨⟨a1, a2, fun l' hl' hn => by rw [e l' hn]; exact a3 l' hl', a4⟩, (a3 l hl).2.2.2.2, h3, h4⟩
theorem PLc.a {l N : Nat} (hl : l < 4) {m m' : St} (h : PLc l N m) (fr : Fr (WAc ++ WAr) m m') : PLc l N m' := by
  refine h.e (fun k hk => ?_) (fun o o1 o2 c _ => ?_)
  · have : ∀ l, l < 4 → ∀ k, k < 4 → (WAc ++ WAr).all (fun b => !(b.1 == 57 + 18 * l + k)) = true := by decide
    exact fr.fi _ (this l hl k hk)
  · have : ∀ d, d < 5 → (WAc ++ WAr).all (fun b => !(b.1 == 190 + d)) = true := by decide
    have := this (o - 190) (by omega)
    rw [show 190 + (o - 190) = o by omega] at this
    rw [fr.fi _ this]
theorem PLo.a {m m' : St} (h : PLo m) (e1 : gI m' 26 = gI m 26) (e2 : gI m' 195 = gI m 195) : PLo m' := fun ch c1 c2 => by
  rw [e1, e2]; exact h ch c1 c2
def WBc : List PL := WAc ++ [(26, none), (27, none), (57, none), (58, none), (59, none), (60, none), (75, none), (76, none), (77, none), (78, none), (93, none), (94, none), (95, none), (96, none), (111, none), (112, none), (113, none), (114, none)]
def WBr : List PL := WAr ++ W21
theorem WBc_l {l : Nat} (hl : l < 4) {a b : St} (h : Fr (W83 l) a b) : Fr WBc a b := by
  have : ∀ l, l < 4 → within' (W83 l) WBc = true := by decide
  exact h.wd (this l hl)
theorem WBc_a {a b : St} (h : Fr WAc a b) : Fr WBc a b := h.sub (by intro x hx; exact List.mem_append_left _ hx)
theorem WBr_a {a b : St} (h : Fr WAr a b) : Fr WBr a b := h.sub (by intro x hx; exact List.mem_append_left _ hx)
