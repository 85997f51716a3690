/-! PURE: acts: class at u, reference at w, step by step -/
def S_scr : List PL := [(24, some 6), (43, some 0), (61, some 0), (79, some 0), (97, some 0)] ++ ((List.range 13).map fun i => (30 + i, none)) ++ ((List.range 13).map fun i => (44 + i, none)) ++ ((List.range 13).map fun i => (62 + i, none)) ++ ((List.range 13).map fun i => (80 + i, none)) ++ ((List.range 13).map fun i => (98 + i, none)) ++ ((List.range 13).map fun i => (158 + i, none))
theorem scr_q {q j : Nat} (hq : SQ q) (hj : j ≤ 12) : (q + j, (none : Option Nat)) ∈ S_scr := by
  have : ∀ q ∈ [30, 44, 62, 80, 98], ∀ j, j < 13 → (q + j, (none : Option Nat)) ∈ S_scr := by decide
  exact this q (by unfold SQ at hq; simp; omega) j (by omega)
theorem scr_r {j : Nat} (hj : j ≤ 12) : (158 + j, (none : Option Nat)) ∈ S_scr := by
  have : ∀ j, j < 13 → (158 + j, (none : Option Nat)) ∈ S_scr := by decide
  exact this j (by omega)
theorem Same.fm {S : List PL} {st u : St} (hs : Same S st u) {o : Nat} (m : (o, (none : Option Nat)) ∈ S) : gI u o = gI st o ∧ gL u o = gL st o ∧ gR u o = gR st o := ⟨funext fun k => (hs o k (List.any_eq_true.mpr ⟨_, m, by simp [covers]⟩)).1, funext fun k => (hs o k (List.any_eq_true.mpr ⟨_, m, by simp [covers]⟩)).2.1, funext fun k => (hs o k (List.any_eq_true.mpr ⟨_, m, by simp [covers]⟩)).2.2⟩
theorem RK.e {l c a : Nat} {D : LD} {s u : St} (h : RK l c a D s) (hL : LOK c a D) (e : ∀ j, j ≤ 12 → gI u (158 + j) = gI s (158 + j)) : RK l c a D u := by
  have e0 := e 0 (by omega)
  have e9 := e 9 (by omega)
  have e10 := e 10 (by omega)
  have e11 := e 11 (by omega)
  have e12 := e 12 (by omega)
  simp only [Nat.reduceAdd, Nat.add_zero] at e0 e9 e10 e11 e12
  refine h.o hL.1 hL.2.1 ⟨by rw [e0], fun j hj i _ => by rw [show 159 + j = 158 + (j + 1) by omega, e (j + 1) (by omega)], fun i _ => by rw [e9], fun i _ => ?_⟩
  rw [e10, e11, e12]
  exact ⟨rfl, rfl, rfl⟩
theorem SCR.fr {sp : Nat} {Q C A : Nat → Nat} {DD : Nat → LD} {st u : St} (h : SCR sp Q C A DD st) (hs : Same S_scr st u) : SCR sp Q C A DD u := by
  obtain ⟨h1, h2, h3⟩ := h
  refine ⟨by rw [(hs 24 6 (by decide)).2.2]; exact h1, h2, fun l hl => ?_⟩
  obtain ⟨a1, a2, a3, a4, a5, a6, a7⟩ := h3 l hl
  refine ⟨?_, a2, a3, a4, a5.c (fun j hj => ⟨(hs.fm (scr_q a2 hj)).1, (hs.fm (scr_q a2 hj)).2.1⟩), a6, a7.e a6 (fun j hj => (hs.fm (scr_r hj)).1)⟩
  have : ∀ l, l < 4 → S_scr.any (covers · (43 + 18 * l) 0) = true := by decide
  rw [(hs _ 0 (this l hl)).2.2]; exact a1
/-- a list's own, with bounds a, b of when it begins or goes on -/
def PLg (l a b c : Nat) (st : St) : Prop := gI st (43 + 18 * l) 5 = gI st 186 l ∧ (gI st (43 + 18 * l) 5 = -nI 1 ∨ ∃ i, i < c ∧ gI st (43 + 18 * l) 5 = nI i) ∧ ((gI st (43 + 18 * l) 6 = nI 1 ∧ (∃ w, a < w ∧ w ≤ b ∧ gI st (43 + 18 * l) 7 = nI w ∧ gI st 187 l = nI w) ∧ (∃ i, i < c ∧ gI st (43 + 18 * l) 5 = nI i) ∧ gI st (43 + 18 * l) 8 = -nI 1 ∧ gI st 188 l = -nI 1) ∨ (gI st (43 + 18 * l) 6 = nI 0 ∧ gI st 187 l = -nI 1 ∧ ((gI st (43 + 18 * l) 8 = -nI 1 ∧ gI st 188 l = -nI 1) ∨ ∃ w, a < w ∧ w ≤ b ∧ gI st (43 + 18 * l) 8 = nI w ∧ gI st 188 l = nI w ∧ ∃ i, i < c ∧ gI st (43 + 18 * l) 5 = nI i))) ∧ ∃ m, m ≤ 255 ∧ gI st (43 + 18 * l) 9 = nI m ∧ gI st 189 l = nI m
theorem PLg.of {l N c : Nat} {st : St} (h : PL1 l N c st) : PLg l N (N + 9999) c st := h
theorem PLg.to {l N c : Nat} {st : St} (h : PLg l N (N + 9999) c st) : PL1 l N c st := h
theorem PLg.mono {l a b a' b' c : Nat} {st : St} (h : PLg l a b c st) (ha : a' ≤ a) (hb : b ≤ b') : PLg l a' b' c st := by
  obtain ⟨h1, h2, h3, h4⟩ := h
  refine ⟨h1, h2, ?_, h4⟩
  rcases h3 with ⟨q1, ⟨w, q2, q3, q4⟩, q5⟩ | ⟨q1, q2, q | ⟨w, q3, q4, q5⟩⟩
  · exact Or.inl ⟨q1, ⟨w, by omega, by omega, q4⟩, q5⟩
  · exact Or.inr ⟨q1, q2, Or.inl q⟩
  · exact Or.inr ⟨q1, q2, Or.inr ⟨w, by omega, by omega, q5⟩⟩
def A2 (N : Nat) (lo : Nat → Nat) (sp : Nat) (Q C A : Nat → Nat) (DD : Nat → LD) (L : Nat → Option LK) (m : St) : Prop := gI m 153 40 = nI N ∧ SCR sp Q C A DD m ∧ (∀ l, l < 4 → lo l ≤ N ∧ PLg l (lo l) (N + 9999) (C l) m) ∧ P_ax m ∧ P_ev m ∧ P_cod m ∧ LCk L m ∧ LRk L m
/-- scripts and locks, on each side -/
def SC2 (N sp : Nat) (Q C A : Nat → Nat) (DD : Nat → LD) (L : Nat → Option LK) (u w : St) : Prop := (∀ l, l < 4 → gR u (43 + 18 * l) 0 = Q l ∧ SQ (Q l) ∧ SC (Q l) (C l) (A l) (DD l) u ∧ LOK (C l) (A l) (DD l) ∧ RK l (C l) (A l) (DD l) w) ∧ LCk L u ∧ LRk L w ∧ gI w 153 40 = nI N
theorem sc2 {N sp : Nat} {Q C A : Nat → Nat} {DD : Nat → LD} {L : Nat → Option LK} {u w : St} (h1 : gI (mg u w) 153 40 = nI N) (h2 : SCR sp Q C A DD (mg u w)) (h3 : P_cod (mg u w)) (h4 : LCk L (mg u w)) (h5 : LRk L (mg u w)) : SC2 N sp Q C A DD L u w := by
  refine ⟨fun l hl => ?_, h4.fr h3 (mg_sameC u w (by decide)), h5.fr (mg_sameR u w (by decide)), by rw [← (mgR u w (o := 153) (by omega)).1]; exact h1⟩
  obtain ⟨a1, a2, a3, a4, a5, a6, a7⟩ := h2.2.2 l hl
  have b := a2.b
  refine ⟨by rw [← (mgC u w (o := 43 + 18 * l) (by omega)).2.2]; exact a1, a2, a5.c (fun j hj => ?_), a6, a7.e a6 (fun j hj => ?_)⟩
  · rw [(mgC u w (o := Q l + j) (by omega)).1, (mgC u w (o := Q l + j) (by omega)).2.1]; exact ⟨rfl, rfl⟩
  · rw [(mgR u w (o := 158 + j) (by omega)).1]
theorem A2.s {N : Nat} {lo : Nat → Nat} {sp : Nat} {Q C A : Nat → Nat} {DD : Nat → LD} {L : Nat → Option LK} {u w : St} (h : A2 N lo sp Q C A DD L (mg u w)) : SC2 N sp Q C A DD L u w := sc2 h.1 h.2.1 h.2.2.2.2.2.1 h.2.2.2.2.2.2.1 h.2.2.2.2.2.2.2
/-! one list's own -/
theorem PLg.e {l a b c : Nat} {st u : St} (h : PLg l a b c st) (e1 : ∀ k, 5 ≤ k → k ≤ 9 → gI u (43 + 18 * l) k = gI st (43 + 18 * l) k) (e2 : ∀ o, 186 ≤ o → o ≤ 189 → gI u o l = gI st o l) : PLg l a b c u := by
  unfold PLg at h ⊢
  rw [e1 5 (by omega) (by omega), e1 6 (by omega) (by omega), e1 7 (by omega) (by omega), e1 8 (by omega) (by omega), e1 9 (by omega) (by omega), e2 186 (by omega) (by omega), e2 187 (by omega) (by omega), e2 188 (by omega) (by omega), e2 189 (by omega) (by omega)]
  exact h
theorem armR_o (l m w : Nat) (s : St) {o : Nat} (h6 : o ≠ 186) (h7 : o ≠ 187) (h8 : o ≠ 188) : gI (armR l m w s) o = gI s o := by
  unfold armR
  rw [gI_sI_n _ _ _ h7, gI_sI_n _ _ _ h7, gI_sI_n _ _ _ h8, gI_sI_n _ _ _ h6]
theorem PLg.armS {l a b c m w v : Nat} {s : St} (hl : l < 4) (hm : m < c) (hv : v ≤ 255) (h9 : gI s (43 + 18 * l) 9 = nI v) (h89 : gI s 189 l = nI v) (h1 : a < w) (h2 : w ≤ b) : PLg l a b c (armR l m w (armC l m w s)) := by
  have g5 : gI (armR l m w (armC l m w s)) (43 + 18 * l) 5 = nI m := by rw [armR_o _ _ _ _ (by omega) (by omega) (by omega)]; unfold armC; simp [gI_sI]
  have g6 : gI (armR l m w (armC l m w s)) (43 + 18 * l) 6 = nI 1 := by rw [armR_o _ _ _ _ (by omega) (by omega) (by omega)]; unfold armC; simp [gI_sI]
  have g7 : gI (armR l m w (armC l m w s)) (43 + 18 * l) 7 = nI w := by rw [armR_o _ _ _ _ (by omega) (by omega) (by omega)]; unfold armC; simp [gI_sI]
  have g8 : gI (armR l m w (armC l m w s)) (43 + 18 * l) 8 = -nI 1 := by rw [armR_o _ _ _ _ (by omega) (by omega) (by omega)]; unfold armC; simp [gI_sI]
  have g9 : gI (armR l m w (armC l m w s)) (43 + 18 * l) 9 = gI s (43 + 18 * l) 9 := by rw [armR_o _ _ _ _ (by omega) (by omega) (by omega)]; unfold armC; simp [gI_sI]
  have r6 : gI (armR l m w (armC l m w s)) 186 l = nI m := by unfold armR armC; simp [gI_sI]
  have r7 : gI (armR l m w (armC l m w s)) 187 l = nI w := by unfold armR armC; simp [gI_sI]
  have r8 : gI (armR l m w (armC l m w s)) 188 l = -nI 1 := by unfold armR armC; simp [gI_sI]
  have r9 : gI (armR l m w (armC l m w s)) 189 l = gI s 189 l := by
    unfold armR armC
    rw [gI_sI_n _ _ _ (by omega), gI_sI_n _ _ _ (by omega), gI_sI_n _ _ _ (by omega), gI_sI_n _ _ _ (by omega), gI_sI_n _ _ _ (by omega), gI_sI_n _ _ _ (by omega), gI_sI_n _ _ _ (by omega), gI_sI_n _ _ _ (by omega)]
  unfold PLg
  rw [g5, g6, g7, g8, g9, r6, r7, r8, r9, h9, h89]
  exact ⟨rfl, Or.inr ⟨m, hm, rfl⟩, Or.inl ⟨rfl, ⟨w, h1, h2, rfl, rfl⟩, ⟨m, hm, rfl⟩, rfl, rfl⟩, v, hv, rfl, rfl⟩
theorem PLg.arm {l a b c l' m w : Nat} {s : St} (h : PLg l a b c s) (hl : l < 4) (hl' : l' < 4) (hm : l = l' → m < c) (h1 : a < w) (h2 : w ≤ b) : PLg l a b c (armR l' m w (armC l' m w s)) := by
  by_cases e : l = l'
  · subst e
    obtain ⟨-, -, -, v, v1, v2, v3⟩ := h
    exact PLg.armS hl (hm rfl) v1 v2 v3 h1 h2
  · refine h.e (fun k k1 k2 => ?_) (fun o o1 o2 => ?_)
    · unfold armR armC
      rw [gI_sI_n _ _ _ (by omega), gI_sI_n _ _ _ (by omega), gI_sI_n _ _ _ (by omega), gI_sI_n _ _ _ (by omega), gI_sI_n _ _ _ (by omega), gI_sI_n _ _ _ (by omega), gI_sI_n _ _ _ (by omega), gI_sI_n _ _ _ (by omega)]
    · unfold armR armC
      simp only [gI_sI]
      rw [if_neg (by omega), if_neg (by omega), if_neg (by omega), if_neg (by omega), if_neg (by omega), if_neg (by omega), if_neg (by omega), if_neg (by omega)]
theorem PLg.mas {l a b c l' v : Nat} {s : St} (h : PLg l a b c s) (hl : l < 4) (hl' : l' < 4) (hv : v ≤ 255) : PLg l a b c (sI (sI s (43 + 18 * l') 9 (nI v)) 189 l' (nI v)) := by
  by_cases e : l = l'
  · subst e
    obtain ⟨h1, h2, h3, h4⟩ := h
    have e1 : ∀ k, k ≠ 9 → gI (sI (sI s (43 + 18 * l) 9 (nI v)) 189 l (nI v)) (43 + 18 * l) k = gI s (43 + 18 * l) k := fun k hk => by
      rw [gI_sI_n _ _ _ (by omega), gI_sI, if_neg (by omega)]
    have e2 : ∀ o, o ≠ 189 → o ≠ 43 + 18 * l → gI (sI (sI s (43 + 18 * l) 9 (nI v)) 189 l (nI v)) o l = gI s o l := fun o o1 o2 => by
      rw [gI_sI_n _ _ _ o1, gI_sI_n _ _ _ o2]
    have g9 : gI (sI (sI s (43 + 18 * l) 9 (nI v)) 189 l (nI v)) (43 + 18 * l) 9 = nI v := by rw [gI_sI_n _ _ _ (by omega), gI_sI, if_pos ⟨rfl, rfl⟩]
    have r9 : gI (sI (sI s (43 + 18 * l) 9 (nI v)) 189 l (nI v)) 189 l = nI v := by rw [gI_sI, if_pos ⟨rfl, rfl⟩]
    unfold PLg
    rw [e1 5 (by omega), e1 6 (by omega), e1 7 (by omega), e1 8 (by omega), e2 186 (by omega) (by omega), e2 187 (by omega) (by omega), e2 188 (by omega) (by omega), g9, r9]
    exact ⟨h1, h2, h3, v, hv, rfl, rfl⟩
  · refine h.e (fun k k1 k2 => ?_) (fun o o1 o2 => ?_)
    · rw [gI_sI_n _ _ _ (by omega), gI_sI_n _ _ _ (by omega)]
    · rw [gI_sI, if_neg (by omega), gI_sI_n _ _ _ (by omega)]
/-! what acts change -/
def WAc : List PL := WTo ++ [(6, none), (43, some 5), (43, some 6), (43, some 7), (43, some 8), (43, some 9), (61, some 5), (61, some 6), (61, some 7), (61, some 8), (61, some 9), (79, some 5), (79, some 6), (79, some 7), (79, some 8), (79, some 9), (97, some 5), (97, some 6), (97, some 7), (97, some 8), (97, some 9)]
def WAr : List PL := WTr ++ [(186, none), (187, none), (188, none), (189, none), (210, none)]
theorem WAc_l {l k : Nat} (hl : l < 4) (hk : 5 ≤ k ∧ k ≤ 9) {a b : St} (h : Fr [(43 + 18 * l, some k)] a b) : Fr WAc a b := by
  have : ∀ l, l < 4 → ∀ k, k < 10 → 5 ≤ k → within' [(43 + 18 * l, some k)] WAc = true := by decide
  exact h.wd (this l hl k (by omega) hk.1)
theorem WAc_t {a b : St} (h : Fr WTo a b) : Fr WAc a b := h.sub (by intro x hx; exact List.mem_append_left _ hx)
theorem WAr_t {a b : St} (h : Fr WTr a b) : Fr WAr a b := h.sub (by intro x hx; exact List.mem_append_left _ hx)
/-- where only axes, events or the lists' own have changed -/
theorem A2.re {N : Nat} {lo : Nat → Nat} {sp : Nat} {Q C A : Nat → Nat} {DD : Nat → LD} {L : Nat → Option LK} {m m' : St} (h : A2 N lo sp Q C A DD L m) (fr : Fr (WAc ++ WAr) m m') (h1 : ∀ l, l < 4 → PLg l (lo l) (N + 9999) (C l) m') (h2 : P_ax m') (h3 : P_ev m') : A2 N lo sp Q C A DD L m' := by
  obtain ⟨a1, a2, a3, a4, a5, a6, a7, a8⟩ := h
  exact ⟨by rw [fr.ki 153 40 (by decide)]; exact a1, a2.fr (fr.same (by decide)), fun l hl => ⟨(a3 l hl).1, h1 l hl⟩, h2, h3, a6.fr (fr.same (by decide)), a7.fr a6 (fr.same (by decide)), a8.fr (fr.same (by decide))⟩
theorem P_ev.fe {m m' : St} (h : P_ev m) (e1 : gI m' 6 = gI m 6) (e2 : gI m' 210 = gI m 210) : P_ev m' := ⟨by rw [e1, e2]; exact h.1, fun k => by rw [e1]; exact h.2 k⟩
def PA2 (N : Nat) (lo : Nat → Nat) (sp : Nat) (Q C A : Nat → Nat) (DD : Nat → LD) (L : Nat → Option LK) (u w u' w' : St) : Prop := Fr WAc u u' ∧ Fr WAr w w' ∧ Top u' ∧ Top w' ∧ A2 N lo sp Q C A DD L (mg u' w')
set_option maxRecDepth 100000 in
theorem act_2 {N : Nat} {lo : Nat → Nat} {sp : Nat} {Q C A : Nat → Nat} {DD : Nat → LD} {L : Nat → Option LK} {u w : St} (h : A2 N lo sp Q C A DD L (mg u w)) (hTu : Top u) (hTw : Top w) (hN : N ≤ 100000) {fu : Nat} (hf : 100 ≤ fu) {l i t : Nat} (hl : l < 4) (hi : i < C l) (ht : DD l 7 i + t < DD l 7 (i + 1)) (d : Nat) : ∃ u' w', f_X1_runAct fu 24 (Q l) (nI (DD l 7 i + t)) (nI N) u = some u' ∧ (∀ rb K, b_X12_begins_202_b fu (F_X12_plays fu (d + 1)).1 rb K 153 (nI l) (nI (l * 60 + i)) (nI t) w = K 153 (nI l) (nI (l * 60 + i)) (nI (t + 1)) w') ∧ PA2 N lo sp Q C A DD L u w u' w' := by
  obtain ⟨S, hC, hR, n40⟩ := h.s
  obtain ⟨-, -, hP1, hA, hE, -, -, -⟩ := id h
  obtain ⟨s1, s2, s3, s4, s5⟩ := S l hl
  have ja : DD l 7 i + t < A l := by have := (s4.d6 i hi).2; omega
  obtain ⟨b8, b10, -, b9, b5⟩ := s4.2.2.2.2.2 _ ja
  obtain ⟨j, hj⟩ : ∃ j, j = DD l 7 i + t := ⟨_, rfl⟩
  have C0 := act_c hTu s2 s3 s4 (j := j) (N := N) (by omega) fu
  have R0 := fun rb K => act_r hTw hl s5 s4 hi ht fu (F_X12_plays fu (d + 1)).1 rb K
  rw [← hj] at b8 b10 b9 b5 ⊢ ja
  simp only [← hj] at R0
  have h6 : DD l 8 j = 0 ∨ DD l 8 j = 1 ∨ DD l 8 j = 2 ∨ DD l 8 j = 3 ∨ DD l 8 j = 4 ∨ DD l 8 j = 5 := by omega
  rcases h6 with k | k | k | k | k | k
  · exact ⟨u, w, C0.1 k, fun rb K => (R0 rb K).1 k, Fr.rf, Fr.rf, hTu, hTw, h⟩
  · have n8 : DD l 9 j < 8 := by have := (b9 (by omega)).2; rw [k] at this; have : mo 1 = 7 := rfl; omega
    obtain ⟨r, u', w', e1, e2, f1, f2, hT1, hT2, hA'⟩ := send_2 hTu hTw hA hE hC hR n8 hf (nI (DD l 10 j))
    refine ⟨u', w', act_c1 hTu s2 s3 s4 ja k e1, fun rb K => ?_, WAc_t f1, WAr_t f2, hT1, hT2, ?_⟩
    · have := act_r1 hTw hl s5 s4 hi ht (F_X12_plays fu (d + 1)).1 rb K (by rw [← hj]; exact k) (by rw [← hj]; exact e2)
      exact this
    · have fm := mg_fr (WAc_t f1) (WAr_t f2)
      have fm2 := mg_fr f1 f2
      refine h.re fm (fun l' hl' => (hP1 l' hl').2.e (fun k k1 k2 => ?_) (fun o o1 o2 => ?_)) hA' (hE.fe (fm2.fi 6 (by decide)) (fm2.fi 210 (by decide)))
      · have : ∀ l, l < 4 → (WTo ++ WTr).all (fun b => !(b.1 == 43 + 18 * l)) = true := by decide
        rw [fm2.fi _ (this l' hl')]
      · have : ∀ o, o < 190 → 186 ≤ o → (WTo ++ WTr).all (fun b => !(b.1 == o)) = true := by decide
        rw [fm2.fi _ (this o (by omega) o1)]
  · have n8 : DD l 9 j < 8 := by have := (b9 (by omega)).2; rw [k] at this; have : mo 2 = 7 := rfl; omega
    have f1 : Fr WTo u (sI u (8 + 2 * DD l 9 j) 7 (-nI 1)) := WTo_n n8 (Or.inl rfl) (Fr.i _ _ _ _)
    have f2 : Fr WTr w (sI w 205 (DD l 9 j) (-nI 1)) := (Fr.ia w 205 _ _).wd (by decide)
    refine ⟨_, _, C0.2.1 k n8, fun rb K => (R0 rb K).2.1 k n8, WAc_t f1, WAr_t f2, hTu.r rfl, hTw.r rfl, ?_⟩
    have fm := mg_fr (WAc_t f1) (WAr_t f2)
    have fm2 := mg_fr f1 f2
    refine h.re fm (fun l' hl' => (hP1 l' hl').2.e (fun k k1 k2 => ?_) (fun o o1 o2 => ?_)) ?_ (hE.fe (fm2.fi 6 (by decide)) (fm2.fi 210 (by decide)))
    · have : ∀ l, l < 4 → (WTo ++ WTr).all (fun b => !(b.1 == 43 + 18 * l)) = true := by decide
      rw [fm2.fi _ (this l' hl')]
    · have : ∀ o, o < 190 → 186 ≤ o → (WTo ++ WTr).all (fun b => !(b.1 == o)) = true := by decide
      rw [fm2.fi _ (this o (by omega) o1)]
    · rw [mg_sR _ _ (by omega), mg_sC _ _ (by omega)]
      exact ax_set hA n8 _ (k := 7) (Or.inr rfl) (fun _ => Or.inl rfl)
  · have n16 : DD l 9 j < 16 := by have := (b9 (by omega)).2; rw [k] at this; have : mo 3 = 15 := rfl; omega
    have f1 : Fr [(6, none)] u (sI u 6 (DD l 9 j) (nI 1)) := Fr.ia _ _ _ _
    have f2 : Fr [(210, none)] w (sI w 210 (DD l 9 j) (nI 1)) := Fr.ia _ _ _ _
    refine ⟨_, _, C0.2.2.1 k n16, fun rb K => (R0 rb K).2.2.1 k n16, f1.wd (by decide), f2.wd (by decide), hTu.r rfl, hTw.r rfl, ?_⟩
    have fm2 := mg_fr f1 f2
    refine h.re (fm2.wd (by decide)) (fun l' hl' => (hP1 l' hl').2.e (fun k k1 k2 => ?_) (fun o o1 o2 => ?_)) (hA.fr (fm2.same (by decide))) ?_
    · rw [fm2.fi _ (by simp <;> omega)]
    · rw [fm2.fi _ (by simp <;> omega)]
    · rw [mg_sR _ _ (by omega), mg_sC _ _ (by omega)]
      exact ev_set hE _ _ (Or.inr rfl)
  · have n4 : DD l 9 j < 4 := by have := (b9 (by omega)).2; rw [k] at this; have : mo 4 = 3 := rfl; omega
    obtain ⟨l', hl'⟩ : ∃ l', l' = DD l 9 j := ⟨_, rfl⟩
    rw [← hl'] at n4
    obtain ⟨q1, q2, q3, q4, q5⟩ := S l' n4
    have cc := call_c hTu n4 q2 q1 q3 q4 hN b10 hf
    have rr := cueOf_r hTw n4 q5 q4 hf (x := DD l 10 j) (by omega)
    have hl2 : DD l 9 (DD l 7 i + t) = l' := by rw [← hj, hl']
    have hl3 : DD l 10 (DD l 7 i + t) = DD l 10 j := by rw [← hj]
    have c60 := q4.1
    cases ef : fnd (DD l') (DD l 10 j) (C l') 0 with
    | none =>
      rw [ef] at cc rr
      refine ⟨u, w, act_c4 hTu s2 s3 s4 ja k (by omega) (by rw [← hl']; exact cc), fun rb K => ?_, Fr.rf, Fr.rf, hTu, hTw, h⟩
      exact act_r4 hTw hl s5 s4 hi ht (F_X12_plays fu (d + 1)).1 rb K (by rw [← hj]; exact k) (o := none) (fun m hm => by cases hm) (by rw [hl2, hl3]; exact rr) (u := w) rfl
    | some m =>
      rw [ef] at cc rr
      obtain ⟨-, m2, -⟩ := fnd_s ef
      have m2 : m < C l' := by omega
      have d3 := (q4.2.2.2.2.1 m m2).1.2.2.2.2.1
      obtain ⟨wv', hwv⟩ : ∃ v, v = N + (if DD l' 3 m ≤ 1 then 1 else DD l' 3 m) := ⟨_, rfl⟩
      have wb : N < wv' ∧ wv' ≤ N + 9999 := by
        rw [hwv]
        by_cases c : DD l' 3 m ≤ 1
        · rw [if_pos c]; omega
        · rw [if_neg c]; omega
      replace cc : f_X1_callCue fu (43 + 18 * l') (nI (DD l 10 j)) (nI N) u = some (armC l' m (N + (if DD l' 3 m ≤ 1 then 1 else DD l' 3 m)) u) := cc
      rw [← hwv] at cc
      have pw := plays_w hTw (N := N) (m := m) (wt := DD l' 3 m) (p := 1) n4 (by omega) hN d3 (by omega) n40 ((q5.2.1 m m2).1 3 (by omega)) (by omega) fu d
      rw [← hwv] at pw
      have f1 : Fr WAc u (armC l' m wv' u) := by
        unfold armC
        exact (WAc_l n4 (by omega) (Fr.i _ _ _ _)).tt ((WAc_l n4 (by omega) (Fr.i _ _ _ _)).tt ((WAc_l n4 (by omega) (Fr.i _ _ _ _)).tt (WAc_l n4 (by omega) (Fr.i _ _ _ _))))
      have f2 : Fr [(186, none), (187, none), (188, none)] w (armR l' m wv' w) := by
        unfold armR
        exact ((((Fr.ia w 186 _ _).tr (Fr.ia _ 188 _ _)).tr (Fr.ia _ 187 _ _)).tr (Fr.ia _ 187 _ _)).wd (by decide)
      refine ⟨_, _, act_c4 hTu s2 s3 s4 ja k (by omega) (by rw [← hl']; exact cc), fun rb K => ?_, f1, f2.wd (by decide), hTu.r rfl, hTw.r rfl, ?_⟩
      · exact act_r4 hTw hl s5 s4 hi ht (F_X12_plays fu (d + 1)).1 rb K (by rw [← hj]; exact k) (o := some m) (fun m' hm => by injection hm with hm; omega) (by rw [hl2, hl3]; exact rr) (u := armR l' m wv' w) (by show (F_X12_plays fu (d + 1)).1 153 (nI (DD l 9 (DD l 7 i + t))) (nI m) (nI 1) w = _; rw [hl2]; exact pw)
      · have em : mg (armC l' m wv' u) (armR l' m wv' w) = armR l' m wv' (armC l' m wv' (mg u w)) := by
          unfold armC armR
          rw [mg_sR _ _ (by omega), mg_sR _ _ (by omega), mg_sR _ _ (by omega), mg_sR _ _ (by omega), mg_sC _ _ (by omega), mg_sC _ _ (by omega), mg_sC _ _ (by omega), mg_sC _ _ (by omega)]
        have fm : Fr (WAc ++ WAr) (mg u w) (mg (armC l' m wv' u) (armR l' m wv' w)) := mg_fr f1 (f2.wd (by decide))
        refine h.re fm (fun l2 hl2' => ?_) ?_ (hE.fe ?_ ?_)
        · rw [em]
          exact (hP1 l2 hl2').2.arm hl2' n4 (fun e => by rw [e]; exact m2) (by have := (hP1 l2 hl2').1; omega) wb.2
        · rw [em]
          refine hA.fr ?_
          have fr5 : Fr [(43, some 5), (43, some 6), (43, some 7), (43, some 8), (61, some 5), (61, some 6), (61, some 7), (61, some 8), (79, some 5), (79, some 6), (79, some 7), (79, some 8), (97, some 5), (97, some 6), (97, some 7), (97, some 8), (186, none), (187, none), (188, none)] (mg u w) (armR l' m wv' (armC l' m wv' (mg u w))) := by
            have dd : ∀ l, l < 4 → ∀ k, k < 9 → 5 ≤ k → within' [(43 + 18 * l, some k)] [(43, some 5), (43, some 6), (43, some 7), (43, some 8), (61, some 5), (61, some 6), (61, some 7), (61, some 8), (79, some 5), (79, some 6), (79, some 7), (79, some 8), (97, some 5), (97, some 6), (97, some 7), (97, some 8), (186, none), (187, none), (188, none)] = true := by decide
            unfold armR armC
            exact ((Fr.i _ (43 + 18 * l') 5 _).wd (dd l' n4 5 (by omega) (by omega))).tt (((Fr.i _ (43 + 18 * l') 6 _).wd (dd l' n4 6 (by omega) (by omega))).tt (((Fr.i _ (43 + 18 * l') 7 _).wd (dd l' n4 7 (by omega) (by omega))).tt (((Fr.i _ (43 + 18 * l') 8 _).wd (dd l' n4 8 (by omega) (by omega))).tt (((((Fr.ia _ 186 _ _).tr (Fr.ia _ 188 _ _)).tr (Fr.ia _ 187 _ _)).tr (Fr.ia _ 187 _ _)).wd (by decide)))))
          exact fr5.same (by decide)
        · rw [em]
          unfold armR armC
          rw [gI_sI_n _ _ _ (by omega), gI_sI_n _ _ _ (by omega), gI_sI_n _ _ _ (by omega), gI_sI_n _ _ _ (by omega), gI_sI_n _ _ _ (by omega), gI_sI_n _ _ _ (by omega), gI_sI_n _ _ _ (by omega), gI_sI_n _ _ _ (by omega)]
        · rw [em]
          unfold armR armC
          rw [gI_sI_n _ _ _ (by omega), gI_sI_n _ _ _ (by omega), gI_sI_n _ _ _ (by omega), gI_sI_n _ _ _ (by omega), gI_sI_n _ _ _ (by omega), gI_sI_n _ _ _ (by omega), gI_sI_n _ _ _ (by omega), gI_sI_n _ _ _ (by omega)]
  · have n4 : DD l 9 j < 4 := by have := (b9 (by omega)).2; rw [k] at this; have : mo 5 = 3 := rfl; omega
    have v255 := b5 (Or.inr k)
    have f1 : Fr WAc u (sI u (43 + 18 * DD l 9 j) 9 (nI (DD l 10 j))) := WAc_l n4 (by omega) (Fr.i _ _ _ _)
    have f2 : Fr [(189, none)] w (sI w 189 (DD l 9 j) (nI (DD l 10 j))) := Fr.ia _ _ _ _
    refine ⟨_, _, C0.2.2.2 k n4, fun rb K => (R0 rb K).2.2.2 k n4, f1, f2.wd (by decide), hTu.r rfl, hTw.r rfl, ?_⟩
    have em : mg (sI u (43 + 18 * DD l 9 j) 9 (nI (DD l 10 j))) (sI w 189 (DD l 9 j) (nI (DD l 10 j))) = sI (sI (mg u w) (43 + 18 * DD l 9 j) 9 (nI (DD l 10 j))) 189 (DD l 9 j) (nI (DD l 10 j)) := by
      rw [mg_sR _ _ (by omega), mg_sC _ _ (by omega)]
    have fm : Fr (WAc ++ WAr) (mg u w) (mg (sI u (43 + 18 * DD l 9 j) 9 (nI (DD l 10 j))) (sI w 189 (DD l 9 j) (nI (DD l 10 j)))) := mg_fr f1 (f2.wd (by decide))
    refine h.re fm (fun l2 hl2' => ?_) ?_ (hE.fe ?_ ?_)
    · rw [em]; exact (hP1 l2 hl2').2.mas hl2' n4 v255
    · rw [em]
      refine hA.fr ?_
      have dd : ∀ l, l < 4 → within' [(43 + 18 * l, some 9)] [(43, some 9), (61, some 9), (79, some 9), (97, some 9)] = true := by decide
      have fr5 : Fr ([(43, some 9), (61, some 9), (79, some 9), (97, some 9)] ++ [(189, none)]) (mg u w) (sI (sI (mg u w) (43 + 18 * DD l 9 j) 9 (nI (DD l 10 j))) 189 (DD l 9 j) (nI (DD l 10 j))) := ((Fr.i _ _ 9 _).wd (dd _ n4)).tr (Fr.ia _ 189 _ _)
      exact fr5.same (by decide)
    · rw [em, gI_sI_n _ _ _ (by omega), gI_sI_n _ _ _ (by omega)]
    · rw [em, gI_sI_n _ _ _ (by omega), gI_sI_n _ _ _ (by omega)]
