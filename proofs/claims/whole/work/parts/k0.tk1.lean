/-! PURE: one tick, but for the holds: class at u, reference at w -/
theorem PLc.X4 {N : Nat} {m : St} (h : ∀ l, l < 4 → PLc l N m) : ∃ X : Nat → Nat → Nat → Nat, ∀ l, l < 4 → XB N (X l) ∧ (∀ c, c < 64 → gI m (57 + 18 * l) c = nI (X l 0 c) ∧ gI m (58 + 18 * l) c = nI (X l 1 c) ∧ gI m (59 + 18 * l) c = nI (X l 2 c) ∧ gI m (60 + 18 * l) c = nI (X l 3 c)) ∧ ∀ c, c < 64 → PLr l N (X l) c m := by
  have h2 : ∀ l, ∃ X : Nat → Nat → Nat, l < 4 → XB N X ∧ (∀ c, c < 64 → gI m (57 + 18 * l) c = nI (X 0 c) ∧ gI m (58 + 18 * l) c = nI (X 1 c) ∧ gI m (59 + 18 * l) c = nI (X 2 c) ∧ gI m (60 + 18 * l) c = nI (X 3 c)) ∧ ∀ c, c < 64 → PLr l N X c m := fun l => by
    by_cases c : l < 4
    · obtain ⟨X, q⟩ := (h l c).X
      exact ⟨X, fun _ => q⟩
    · exact ⟨fun _ _ => 0, fun z => absurd z c⟩
  obtain ⟨f, hf⟩ := Classical.axiomOfChoice h2
  exact ⟨f, hf⟩
theorem XB.up {N : Nat} {X : Nat → Nat → Nat} (h : XB N X) : XB (N + 1) X := fun ch hc => by
  obtain ⟨a, b, c, d⟩ := h ch hc
  exact ⟨a, b, by omega, d⟩
/-- B2, where only axes have changed -/
theorem B2.ax {N : Nat} {lo : Nat → Nat} {sp : Nat} {Q C A : Nat → Nat} {DD : Nat → LD} {L : Nat → Option LK} {m m' : St} (h : B2 N lo sp Q C A DD L m) (fr : Fr (WXc ++ WXr) m m') (hA : P_ax m') : B2 N lo sp Q C A DD L m' := by
  obtain ⟨⟨a1, a2, a3, a4, a5, a6, a7, a8⟩, h3, h4⟩ := h
  refine ⟨⟨by rw [fr.ki 153 40 (by decide)]; exact a1, a2.fr (fr.same (by decide)), fun l hl => ⟨(a3 l hl).1, (a3 l hl).2.e (fun k _ _ => ?_) (fun o o1 o2 => ?_)⟩, hA, a5.fe (fr.fi 6 (by decide)) (fr.fi 210 (by decide)), a6.fr (fr.same (by decide)), a7.fr a6 (fr.same (by decide)), a8.fr (fr.same (by decide))⟩, fun l hl => (h3 l hl).e (fun k hk => ?_) (fun o o1 o2 c _ => ?_), h4.a (fr.fi 26 (by decide)) (fr.fi 195 (by decide))⟩
  · have : ∀ l, l < 4 → (WXc ++ WXr).all (fun b => !(b.1 == 43 + 18 * l)) = true := by decide
    rw [fr.fi _ (this l hl)]
  · have : ∀ d, d < 4 → (WXc ++ WXr).all (fun b => !(b.1 == 186 + d)) = true := by decide
    have := this (o - 186) (by omega)
    rw [show 186 + (o - 186) = o by omega] at this
    rw [fr.fi _ this]
  · have : ∀ l, l < 4 → ∀ k, k < 4 → (WXc ++ WXr).all (fun b => !(b.1 == 57 + 18 * l + k)) = true := by decide
    exact fr.fi _ (this l hl k hk)
  · have : ∀ d, d < 5 → (WXc ++ WXr).all (fun b => !(b.1 == 190 + d)) = true := by decide
    have := this (o - 190) (by omega)
    rw [show 190 + (o - 190) = o by omega] at this
    rw [fr.fi _ this]
def WYc : List PL := [(1, some 8)] ++ WBc ++ WXc
def WYr : List PL := [(153, some 40), (190, none), (194, none)] ++ WBr ++ WXr
set_option maxRecDepth 100000 in
set_option maxHeartbeats 4000000 in
theorem tick1_2 {N sp : Nat} {Q C A : Nat → Nat} {DD : Nat → LD} {L : Nat → Option LK} {u w : St} (h : B2 N (fun _ => N) sp Q C A DD L (mg u w)) (hTu : Top u) (hTw : Top w) (hN : N < 100000) {fu : Nat} (hf : 3000 ≤ fu) (k15 : Nat → Int32 → Int32 → St → Option (Int32 × St)) (x1 x2 : Int32) : ∃ u' w', b_X11_tick_32 fu k15 fu 1 x1 x2 (nI 0) (sI u 1 8 (nI (N + 1))) = k15 1 x1 (x2 + 1) u' ∧ f_X12_oneTick fu 153 w = b_X12_oneTick_320 fu fu 153 (nI 0) w' ∧ Fr WYc u u' ∧ Fr WYr w w' ∧ Top u' ∧ Top w' ∧ gI u' 1 8 = nI (N + 1) ∧ B2 (N + 1) (fun _ => N + 1) sp Q C A DD L (mg u' w') := by
  obtain ⟨⟨a1, a2, a3, a4, a5, a6, a7, a8⟩, h3, h4⟩ := h
  have n40 : gI w 153 40 = nI N := by rw [← (mgR u w (o := 153) (by omega)).1]; exact a1
  obtain ⟨X, hX⟩ := PLc.X4 h3
  -- now
  obtain ⟨u0, hu0⟩ : ∃ u0, u0 = sI u 1 8 (nI (N + 1)) := ⟨_, rfl⟩
  obtain ⟨w0, hw0⟩ : ∃ w0, w0 = sI w 153 40 (nI (N + 1)) := ⟨_, rfl⟩
  have fu0 : Fr [(1, some 8)] u u0 := by rw [hu0]; exact Fr.i _ _ _ _
  have fw0 : Fr [(153, some 40)] w w0 := by rw [hw0]; exact Fr.i _ _ _ _
  have hT0 : Top u0 := hTu.r (by rw [hu0]; rfl)
  have hTw0 : Top w0 := hTw.r (by rw [hw0]; rfl)
  have mR : ∀ o, 153 ≤ o → gI (mg u w) o = gI w o := fun o ho => (mgR u w ho).1
  -- levels
  obtain ⟨w1, e1, f1, hT1, z1, p1⟩ := lv12 (N := N) (by omega) (X := X) (fun l hl => (hX l hl).1) fu fu 0 w0 (by omega) (by omega) hTw0 (by rw [hw0, gI_sI, if_pos ⟨rfl, rfl⟩]) (fun l hl => by
      rw [fw0.fi 194 (by decide), ← mR 194 (by omega)]; exact (h3 l hl).1) (fun l hl ch hc => by
      have := (hX l hl).2.2 ch hc
      rw [if_neg (by omega)]
      unfold PLr at this ⊢
      rw [mR 190 (by omega), mR 191 (by omega), mR 192 (by omega), mR 193 (by omega), mR 194 (by omega)] at this
      rw [fw0.fi 190 (by decide), fw0.fi 191 (by decide), fw0.fi 192 (by decide), fw0.fi 193 (by decide), fw0.fi 194 (by decide)]
      exact this)
  have fw1 : Fr ([(153, some 40)] ++ [(190, none), (194, none)]) w w1 := fw0.tr f1
  have fm : Fr ([(1, some 8)] ++ ([(153, some 40)] ++ [(190, none), (194, none)])) (mg u w) (mg u0 w1) := mg_fr fu0 fw1
  have hB : B2 (N + 1) (fun x => if x < 0 then N + 1 else N + 1 - 1) sp Q C A DD L (mg u0 w1) := by
    refine ⟨⟨?_, a2.fr (fm.same (by decide)), fun l hl => ?_, a4.fr (fm.same (by decide)), a5.fe (fm.fi 6 (by decide)) (fm.fi 210 (by decide)), a6.fr (fm.same (by decide)), a7.fr a6 (fm.same (by decide)), a8.fr (fm.same (by decide))⟩, fun l hl => ?_, h4.a (fm.fi 26 (by decide)) (fm.fi 195 (by decide))⟩
    · rw [(mgR u0 w1 (o := 153) (by omega)).1, f1.ki 153 40 (by decide), hw0, gI_sI, if_pos ⟨rfl, rfl⟩]
    · simp only [Nat.not_lt_zero, if_false, Nat.add_sub_cancel]
      refine ⟨by omega, ((a3 l hl).2.mono (Nat.le_refl _) (by omega)).e (fun k _ _ => ?_) (fun o o1 o2 => ?_)⟩
      · have : ∀ l, l < 4 → ([(1, some 8)] ++ ([(153, some 40)] ++ [(190, none), (194, none)]) : List PL).all (fun b => !(b.1 == 43 + 18 * l)) = true := by decide
        rw [fm.fi _ (this l hl)]
      · rw [fm.fi o (by simp <;> omega)]
    · obtain ⟨b1, b2, b3⟩ := hX l hl
      refine PLc.of (X := X l) ?_ b1.up (fun c hc => ?_) (fun c hc => ?_)
      · rw [(mgR u0 w1 (o := 194) (by omega)).1]; exact z1 l hl
      · rw [fm.fi _ (by simp <;> omega), fm.fi _ (by simp <;> omega), fm.fi _ (by simp <;> omega), fm.fi _ (by simp <;> omega)]; exact b2 c hc
      · have := p1 l hl c hc
        unfold PLr at this ⊢
        rw [(mgR u0 w1 (o := 190) (by omega)).1, (mgR u0 w1 (o := 191) (by omega)).1, (mgR u0 w1 (o := 192) (by omega)).1, (mgR u0 w1 (o := 193) (by omega)).1, (mgR u0 w1 (o := 194) (by omega)).1]
        exact this
  -- lists
  obtain ⟨u2, w2, l1, l2, l3, l4, l5, l6, l7⟩ := lists_2 (N := N + 1) (by omega) (by omega) (fu := fu) (by omega) k15 x1 x2 fu fu 0 u0 w1 (by omega) (by omega) (by omega) hB (by rw [hu0, gI_sI, if_pos ⟨rfl, rfl⟩]) hT0 hT1
  -- axes
  obtain ⟨-, sC, sR, -⟩ := l7.1.s
  obtain ⟨u3, w3, x1', x2', x3, x4, x5, x6, x7⟩ := axes_2 hf l5 l6 l7.1.2.2.2.1 l7.1.2.2.2.2.1 (l7.1.2.2.2.2.2.1.fr (mg_sameC u2 w2 (by decide))) sC sR
  refine ⟨u3, w3, ?_, ?_, ?_, ?_, x5, x6, ?_, l7.ax (mg_fr x3 x4) x7⟩
  · rw [← hu0, l1, x1', cv_s]
  · unfold f_X12_oneTick
    rw [ck_t (show (kd 153).1 = 12 from rfl), ck_t (show (kd 153).1 = 12 from rfl), n40, show nI N + 1 = nI (N + 1) from nI_add N 1, ← hw0, bd_e]
    exact e1.trans (l2.trans x2')
  · exact ((fu0.tr l3).tr x3)
  · exact ((fw1.tr l4).tr x4)
  · rw [x3.ki 1 8 (by decide), l3.ki 1 8 (by decide), hu0, gI_sI, if_pos ⟨rfl, rfl⟩]
