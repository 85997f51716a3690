/-! PURE: a cue begins: class at u, reference at w -/
def PB2 (N : Nat) (lo : Nat → Nat) (sp : Nat) (Q C A : Nat → Nat) (DD : Nat → LD) (L : Nat → Option LK) (u w u' w' : St) : Prop := Fr WBc u u' ∧ Fr WBr w w' ∧ Top u' ∧ Top w' ∧ B2 N lo sp Q C A DD L (mg u' w')
theorem fr43 {l : Nat} (hl : l < 4) {a b : St} (h : Fr [(43 + 18 * l, some 6), (43 + 18 * l, some 8)] a b) : Fr WAc a b := by
  have : ∀ l, l < 4 → within' [(43 + 18 * l, some 6), (43 + 18 * l, some 8)] WAc = true := by decide
  exact h.wd (this l hl)
set_option maxRecDepth 100000 in
set_option maxHeartbeats 4000000 in
theorem begin_2 {N : Nat} {lo : Nat → Nat} {sp : Nat} {Q C A : Nat → Nat} {DD : Nat → LD} {L : Nat → Option LK} {u w : St} {l i : Nat} (h : B1 N lo sp Q C A DD L l (mg u w)) (hlo : lo l = N) (hi : i < C l) (h5 : gI u (43 + 18 * l) 5 = nI i) (h86 : gI w 186 l = nI i) (h88 : gI w 188 l = -nI 1) (hTu : Top u) (hTw : Top w) (hN : N ≤ 100000) {fu : Nat} (hf : 400 ≤ fu) (hl : l < 4) (d : Nat) : ∃ u' w', f_X1_begin fu 24 (nI l) (nI N) u = some u' ∧ (F_X12_plays fu (d + 1 + 1)).2 153 (nI l) w = some w' ∧ PB2 N lo sp Q C A DD L u w u' w' := by
  obtain ⟨⟨h40, hS, hP, hA, hE, hCo, hLC, hLR⟩, ⟨v, hv, h9, h89⟩, hPc, hPo⟩ := h
  obtain ⟨S, -, -, n40⟩ := sc2 h40 hS hCo hLC hLR
  obtain ⟨s1, s2, s3, s4, s5⟩ := S l hl
  have c60 := s4.1
  have d4 := (s4.2.2.2.2.1 i hi).1.2.2.2.2.2.1
  have d7 := s4.d6 i hi
  have d77 := (s4.2.2.2.2.1 i hi).2.1
  obtain ⟨X, hB, hX, hr⟩ := (hPc l hl).X
  have lw : ∀ o, o < 153 → gI (mg u w) o = gI u o := fun o ho => (mgC u w ho).1
  have hi' : ∀ o, 153 ≤ o → gI (mg u w) o = gI w o := fun o ho => (mgR u w ho).1
  rw [lw _ (by omega)] at h9
  rw [hi' _ (by omega)] at h89
  -- class: head, tracks, channels
  obtain ⟨u0, hu0⟩ : ∃ u0, u0 = begC l N (DD l 4 i) u := ⟨_, rfl⟩
  have f0 : Fr [(43 + 18 * l, some 6), (43 + 18 * l, some 8)] u u0 := by rw [hu0]; unfold begC; exact (Fr.i u (43 + 18 * l) 6 _).tr (Fr.i _ (43 + 18 * l) 8 _)
  have hT0 : Top u0 := hTu.r (by rw [hu0]; rfl)
  have s30 : SC (Q l) (C l) (A l) (DD l) u0 := by
    have qb := s2.b
    refine s3.c (fun j hj => ?_)
    have ne := (s2.ne hl hj (m := 0) (by omega)).2
    exact ⟨f0.fi _ (by simp <;> omega), f0.fl _ (by simp <;> omega)⟩
  obtain ⟨u1, e1, f1, hT1, g1⟩ := trackAll_c hT0 s2 s30 s4 hf hi
  rw [hu0] at e1
  have eb := begin_c hTu hl hN s2 s1 s3 s4 h5 hi e1
  have F1 : Fr ([(43 + 18 * l, some 6), (43 + 18 * l, some 8)] ++ [(27, none)]) u u1 := f0.tr f1
  have s31 : SC (Q l) (C l) (A l) (DD l) u1 := s30.gl s2 f1
  have r1 : gR u1 (43 + 18 * l) 0 = Q l := by rw [f1.fr _ (by simp <;> omega), hu0]; exact s1
  have h51 : gI u1 (43 + 18 * l) 5 = nI i := by rw [F1.ki _ 5 (by simp [covers] <;> omega)]; exact h5
  have xs : XS l 0 X (nxF (DD l) i N X) u1 := fun c hc => by
    rw [if_neg (by omega), if_neg (by omega), if_neg (by omega), if_neg (by omega), F1.fi _ (by simp <;> omega), F1.fi _ (by simp <;> omega), F1.fi _ (by simp <;> omega), F1.fi _ (by simp <;> omega)]
    have := hX c hc
    rw [lw _ (by omega), lw _ (by omega), lw _ (by omega), lw _ (by omega)] at this
    exact this
  obtain ⟨u2, e2, f2, hT2, x2, o2⟩ := bg83 hl hN hB s2 r1 h51 s31 s4 hi g1 fu fu 0 u1 (by omega) (by omega) hT1 Fr.rf xs (fun c => by rw [if_neg (by omega)])
  -- reference: head, channels
  obtain ⟨w0, hw0⟩ : ∃ w0, w0 = sI w 187 l (-nI 1) := ⟨_, rfl⟩
  have k0 : Fr [(187, none)] w w0 := by rw [hw0]; exact Fr.ia _ _ _ _
  have hTw0 : Top w0 := hTw.r (by rw [hw0]; rfl)
  have er := begins_r hTw hl (show i < 60 by omega) h86 fu (d + 1)
  rw [← hw0] at er
  have s50 : RK l (C l) (A l) (DD l) w0 := s5.e s4 (fun j hj => k0.fi _ (by simp <;> omega))
  have hrw : ∀ c, c < 64 → PLr l N X c w0 := fun c hc => by
    have := hr c hc
    unfold PLr at this ⊢
    rw [hi' _ (by omega), hi' _ (by omega), hi' _ (by omega), hi' _ (by omega), hi' _ (by omega)] at this
    rw [k0.fi 190 (by decide), k0.fi 191 (by decide), k0.fi 192 (by decide), k0.fi 193 (by decide), k0.fi 194 (by decide)]
    exact this
  obtain ⟨w1, e3, f3, hT3, o21, pr, o3⟩ := bg21 hl hN hB s50 s4 hi (by rw [k0.ki 153 40 (by decide)]; exact n40) fu (F_X12_plays fu (d + 1)).1 (F_X12_plays fu (d + 1)).2 fu 0 w0 (by omega) (by omega) hTw0 Fr.rf (fun j _ => ⟨rfl, rfl, rfl, rfl, rfl⟩) (fun c hc => by omega) (fun c _ hc => hrw c hc) (fun c _ _ => by rw [if_neg (by omega)])
  obtain ⟨w2, hw2⟩ : ∃ w2, w2 = if DD l 4 i = 0 then w1 else sI w1 188 l (nI (N + DD l 4 i)) := ⟨_, rfl⟩
  have k2 : Fr [(188, none)] w1 w2 := by
    rw [hw2]
    by_cases c : DD l 4 i = 0
    · rw [if_pos c]; exact Fr.rf
    · rw [if_neg c]; exact Fr.ia _ _ _ _
  have hTw2 : Top w2 := hT3.fr (k2.same (by decide))
  have KK : Fr ([(187, none)] ++ W21 ++ [(188, none)]) w w2 := (k0.tr f3).tr k2
  have UU : Fr ([(43 + 18 * l, some 6), (43 + 18 * l, some 8)] ++ [(27, none)] ++ W83 l) u u2 := F1.tr f2
  -- what holds as the acts begin
  have mC : ∀ o, o < 153 → gI (mg u2 w2) o = gI u2 o := fun o ho => (mgC u2 w2 ho).1
  have mR : ∀ o, 153 ≤ o → gI (mg u2 w2) o = gI w2 o := fun o ho => (mgR u2 w2 ho).1
  have ee : mg u w = mg u w := rfl
  have FM : Fr (([(43 + 18 * l, some 6), (43 + 18 * l, some 8)] ++ [(27, none)] ++ W83 l) ++ ([(187, none)] ++ W21 ++ [(188, none)])) (mg u w) (mg u2 w2) := mg_fr UU KK
  have FM2 : Fr ([(43, some 6), (43, some 8), (61, some 6), (61, some 8), (79, some 6), (79, some 8), (97, some 6), (97, some 8), (26, none), (27, none), (57, none), (58, none), (59, none), (60, none), (75, none), (76, none), (77, none), (78, none), (93, none), (94, none), (95, none), (96, none), (111, none), (112, none), (113, none), (114, none), (187, none), (188, none)] ++ W21) (mg u w) (mg u2 w2) := by
    have : ∀ l, l < 4 → within' (([(43 + 18 * l, some 6), (43 + 18 * l, some 8)] ++ [(27, none)] ++ W83 l) ++ ([(187, none)] ++ W21 ++ [(188, none)])) ([(43, some 6), (43, some 8), (61, some 6), (61, some 8), (79, some 6), (79, some 8), (97, some 6), (97, some 8), (26, none), (27, none), (57, none), (58, none), (59, none), (60, none), (75, none), (76, none), (77, none), (78, none), (93, none), (94, none), (95, none), (96, none), (111, none), (112, none), (113, none), (114, none), (187, none), (188, none)] ++ W21) = true := by decide
    exact FM.wd (this l hl)
  have g187 : ∀ x, gI w2 187 x = if x = l then -nI 1 else gI w 187 x := fun x => by
    rw [k2.fi 187 (by decide), f3.fi 187 (by decide), hw0, gI_sI]; simp
  have g188 : ∀ x, gI w2 188 x = if x = l ∧ DD l 4 i ≠ 0 then nI (N + DD l 4 i) else gI w 188 x := fun x => by
    rw [hw2]
    by_cases c : DD l 4 i = 0
    · rw [if_pos c, if_neg (by omega), f3.fi 188 (by decide), k0.fi 188 (by decide)]
    · rw [if_neg c, gI_sI, f3.fi 188 (by decide), k0.fi 188 (by decide)]
      by_cases x' : x = l
      · rw [if_pos ⟨rfl, x'⟩, if_pos ⟨x', c⟩]
      · rw [if_neg (by omega), if_neg (by omega)]
  have c43 : ∀ k, k ≠ 6 → k ≠ 8 → gI u2 (43 + 18 * l) k = gI u (43 + 18 * l) k := fun k k6 k8 => UU.ki _ k (by simp [covers, W83] <;> omega)
  have c6 : gI u2 (43 + 18 * l) 6 = nI 0 := by
    rw [f2.fi _ (by simp [W83] <;> omega), f1.fi _ (by simp <;> omega), hu0]
    unfold begC
    rw [gI_sI, if_neg (by omega), gI_sI, if_pos ⟨rfl, rfl⟩]
  have c8 : gI u2 (43 + 18 * l) 8 = if DD l 4 i = 0 then -nI 1 else nI (N + DD l 4 i) := by
    rw [f2.fi _ (by simp [W83] <;> omega), f1.fi _ (by simp <;> omega), hu0]
    unfold begC
    rw [gI_sI, if_pos ⟨rfl, rfl⟩]
  have hA2 : A2 N lo sp Q C A DD L (mg u2 w2) := by
    refine ⟨by rw [FM2.ki 153 40 (by decide)]; exact h40, hS.fr (FM2.same (by decide)), fun l' hl' => ?_, hA.fr (FM2.same (by decide)), hE.fe (FM2.fi 6 (by decide)) (FM2.fi 210 (by decide)), hCo.fr (FM2.same (by decide)), hLC.fr hCo (FM2.same (by decide)), hLR.fr (FM2.same (by decide))⟩
    by_cases e : l' = l
    · subst e
      refine ⟨by omega, ?_⟩
      unfold PLg
      rw [mC _ (by omega), mR 186 (by omega), mR 187 (by omega), mR 188 (by omega), mR 189 (by omega), c43 5 (by omega) (by omega), c43 9 (by omega) (by omega), c6, c8, g187, if_pos rfl, g188, KK.fi 186 (by decide), KK.fi 189 (by decide), h5, h86, h9, h89]
      refine ⟨rfl, Or.inr ⟨i, hi, rfl⟩, Or.inr ⟨rfl, rfl, ?_⟩, v, hv, rfl, rfl⟩
      by_cases c : DD l' 4 i = 0
      · rw [if_pos c, if_neg (by omega)]; exact Or.inl ⟨rfl, h88⟩
      · rw [if_neg c, if_pos ⟨rfl, c⟩]
        exact Or.inr ⟨N + DD l' 4 i, by omega, by omega, rfl, rfl, i, hi, rfl⟩
    · refine ⟨(hP l' hl' e).1, (hP l' hl' e).2.e (fun k k1 k2 => ?_) (fun o o1 o2 => ?_)⟩
      · exact FM.ki _ k (by simp [covers, W83, W21] <;> omega)
      · rw [mR o (by omega), hi' o (by omega)]
        by_cases e187 : o = 187
        · subst e187; rw [g187, if_neg e]
        · by_cases e188 : o = 188
          · subst e188; rw [g188, if_neg (fun z => e z.1)]
          · rw [KK.fi o (by simp [W21] <;> omega)]
  have hPc2 : ∀ l', l' < 4 → PLc l' N (mg u2 w2) := fun l' hl' => by
    by_cases e : l' = l
    · subst e
      refine PLc.of (X := nxF (DD l') i N X) ?_ (hB.nx s4 hi) (fun c hc => ?_) (fun c hc => ?_)
      · rw [mR 194 (by omega), k2.fi 194 (by decide), (o21 (65 * l') (by omega)).2.2.2.2, k0.fi 194 (by decide), ← hi' 194 (by omega)]
        exact (hPc l' hl').1
      · have := x2 c hc
        rw [if_pos hc, if_pos hc, if_pos hc, if_pos hc] at this
        rw [mC _ (by omega), mC _ (by omega), mC _ (by omega), mC _ (by omega)]
        exact this
      · have := pr c hc
        unfold PLr at this ⊢
        rw [mR 190 (by omega), mR 191 (by omega), mR 192 (by omega), mR 193 (by omega), mR 194 (by omega), k2.fi 190 (by decide), k2.fi 191 (by decide), k2.fi 192 (by decide), k2.fi 193 (by decide), k2.fi 194 (by decide)]
        exact this
    · refine (hPc l' hl').e (fun k hk => FM.fi _ (by simp [W83, W21] <;> omega)) (fun o o1 o2 c hc => ?_)
      rw [mR o (by omega), hi' o (by omega), k2.fi o (by simp <;> omega)]
      obtain ⟨a0, a1, a2, a3, a4⟩ := o21 (65 * l' + c) (by omega)
      have h5' : o = 190 ∨ o = 191 ∨ o = 192 ∨ o = 193 ∨ o = 194 := by omega
      rcases h5' with rfl | rfl | rfl | rfl | rfl
      · rw [a0, k0.fi 190 (by decide)]
      · rw [a1, k0.fi 191 (by decide)]
      · rw [a2, k0.fi 192 (by decide)]
      · rw [a3, k0.fi 193 (by decide)]
      · rw [a4, k0.fi 194 (by decide)]
  have hPo2 : PLo (mg u2 w2) := fun ch c1 c2 => by
    have q := hPo ch c1 c2
    rw [lw 26 (by omega), hi' 195 (by omega)] at q
    have e26 := o2 ch
    rw [F1.fi 26 (by simp <;> omega)] at e26
    have e195 := o3 ch c1 c2
    rw [k0.fi 195 (by decide)] at e195
    rw [mC 26 (by omega), mR 195 (by omega), k2.fi 195 (by decide), e26, e195]
    by_cases c : trk (DD l) i ch ≠ X 0 ch
    · rw [if_pos ⟨c2, c⟩, if_pos c]; exact ⟨rfl, Or.inr ⟨l, hl, rfl⟩⟩
    · rw [if_neg (fun z => c z.2), if_neg c]; exact q
  -- the acts
  obtain ⟨k, hk⟩ : ∃ k, DD l 7 i + 0 + k = DD l 7 (i + 1) := ⟨DD l 7 (i + 1) - DD l 7 i, by omega⟩
  have a300 := s4.2.1
  obtain ⟨u3, w3, a1, a2, a3, a4, a5, a6, a7⟩ := acts_l (fu := fu) hN (by omega) hl hi d (F_X12_plays fu (d + 1)).2 k fu fu 0 u2 w2 hk (by omega) (by omega) hA2 hT2 hTw2
  have UB : Fr WBc u u2 := (WBc_a (fr43 hl f0)).tt ((f1.wd (by decide)).tt (WBc_l hl f2))
  have WB : Fr WBr w w2 := KK.wd (by decide)
  have fa := mg_fr a3 a4
  refine ⟨u3, w3, ?_, ?_, UB.tt (WBc_a a3), WB.tt (WBr_a a4), a5, a6, a7, fun l' hl' => (hPc2 l' hl').a hl' fa, hPo2.a (fa.fi 26 (by decide)) (fa.fi 195 (by decide))⟩
  · rw [eb, show (nI 0 : Int32) = nI 0 from rfl, e2]; exact a1
  · rw [er, show (nI 1 : Int32) = nI (0 + 1) from rfl, e3]
    unfold af21
    rw [← hw2]; exact a2
