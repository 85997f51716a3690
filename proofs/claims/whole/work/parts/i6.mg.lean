/-! PURE: the class's state and the reference's, as one -/
def mg (u w : St) : St := (fun o k => if o < 153 then u.1 o k else w.1 o k, fun o k => if o < 153 then u.2.1 o k else w.2.1 o k, fun o k => if o < 153 then u.2.2 o k else w.2.2 o k)
theorem mgC (u w : St) {o : Nat} (h : o < 153) : gI (mg u w) o = gI u o ∧ gL (mg u w) o = gL u o ∧ gR (mg u w) o = gR u o := ⟨funext fun k => if_pos h, funext fun k => if_pos h, funext fun k => if_pos h⟩
theorem mgR (u w : St) {o : Nat} (h : 153 ≤ o) : gI (mg u w) o = gI w o ∧ gL (mg u w) o = gL w o ∧ gR (mg u w) o = gR w o := ⟨funext fun k => if_neg (by omega), funext fun k => if_neg (by omega), funext fun k => if_neg (by omega)⟩
theorem St.ext3 {a b : St} (h1 : ∀ o, gI a o = gI b o) (h2 : ∀ o, gL a o = gL b o) (h3 : ∀ o, gR a o = gR b o) : a = b := by
  obtain ⟨a1, a2, a3⟩ := a
  obtain ⟨b1, b2, b3⟩ := b
  have e1 : a1 = b1 := funext h1
  have e2 : a2 = b2 := funext h2
  have e3 : a3 = b3 := funext h3
  rw [e1, e2, e3]
theorem mg_self (u : St) : mg u u = u := St.ext3 (fun o => by rcases Nat.lt_or_ge o 153 with h | h; exact (mgC u u h).1; exact (mgR u u h).1) (fun o => by rcases Nat.lt_or_ge o 153 with h | h; exact (mgC u u h).2.1; exact (mgR u u h).2.1) (fun o => by rcases Nat.lt_or_ge o 153 with h | h; exact (mgC u u h).2.2; exact (mgR u u h).2.2)
theorem fr_hi {W : List PL} {a b : St} (h : Fr W a b) (hw : W.all (fun x => decide (x.1 < 153)) = true) {o : Nat} (ho : 153 ≤ o) : gI b o = gI a o ∧ gL b o = gL a o ∧ gR b o = gR a o := by
  have d : W.all (fun b => !(b.1 == o)) = true := List.all_eq_true.mpr fun x hx => by
    have := List.all_eq_true.mp hw x hx
    simp at this
    simp
    omega
  exact ⟨h.fi o d, h.fl o d, h.fr o d⟩
theorem fr_lo {W : List PL} {a b : St} (h : Fr W a b) (hw : W.all (fun x => decide (153 ≤ x.1)) = true) {o : Nat} (ho : o < 153) : gI b o = gI a o ∧ gL b o = gL a o ∧ gR b o = gR a o := by
  have d : W.all (fun b => !(b.1 == o)) = true := List.all_eq_true.mpr fun x hx => by
    have := List.all_eq_true.mp hw x hx
    simp at this
    simp
    omega
  exact ⟨h.fi o d, h.fl o d, h.fr o d⟩
/-- the class goes from a to b: with the reference's cells of b it is as at a -/
theorem mg_c {W : List PL} {a b : St} (h : Fr W a b) (hw : W.all (fun x => decide (x.1 < 153)) = true) : mg a b = a := by
  refine St.ext3 (fun o => ?_) (fun o => ?_) (fun o => ?_)
  · rcases Nat.lt_or_ge o 153 with q | q
    · exact (mgC a b q).1
    · rw [(mgR a b q).1, (fr_hi h hw q).1]
  · rcases Nat.lt_or_ge o 153 with q | q
    · exact (mgC a b q).2.1
    · rw [(mgR a b q).2.1, (fr_hi h hw q).2.1]
  · rcases Nat.lt_or_ge o 153 with q | q
    · exact (mgC a b q).2.2
    · rw [(mgR a b q).2.2, (fr_hi h hw q).2.2]
/-- the reference goes from a to b -/
theorem mg_r {W : List PL} {a b : St} (h : Fr W a b) (hw : W.all (fun x => decide (153 ≤ x.1)) = true) : mg a b = b := by
  refine St.ext3 (fun o => ?_) (fun o => ?_) (fun o => ?_)
  · rcases Nat.lt_or_ge o 153 with q | q
    · rw [(mgC a b q).1, (fr_lo h hw q).1]
    · exact (mgR a b q).1
  · rcases Nat.lt_or_ge o 153 with q | q
    · rw [(mgC a b q).2.1, (fr_lo h hw q).2.1]
    · exact (mgR a b q).2.1
  · rcases Nat.lt_or_ge o 153 with q | q
    · rw [(mgC a b q).2.2, (fr_lo h hw q).2.2]
    · exact (mgR a b q).2.2
theorem mg_top {u w : St} (h1 : Top u) (h2 : Top w) : Top (mg u w) := fun q hq => by
  rcases Nat.lt_or_ge q.1 153 with h | h
  · rw [(mgC u w h).2.2]; exact h1 q hq
  · rw [(mgR u w h).2.2]; exact h2 q hq
theorem mg_sC (u w : St) {o : Nat} (h : o < 153) (k : Nat) (v : Int32) : mg (sI u o k v) w = sI (mg u w) o k v := by
  have e : ∀ o' k', gI (mg (sI u o k v) w) o' k' = gI (sI (mg u w) o k v) o' k' := fun o' k' => by
    rcases Nat.lt_or_ge o' 153 with q | q
    · rw [(mgC _ w q).1, gI_sI, gI_sI, (mgC u w q).1]
    · rw [(mgR _ w q).1, gI_sI, if_neg (by omega), (mgR u w q).1]
  exact St.ext3 (fun o' => funext (e o')) (fun o' => rfl) (fun o' => rfl)
theorem mg_sR (u w : St) {o : Nat} (h : 153 ≤ o) (k : Nat) (v : Int32) : mg u (sI w o k v) = sI (mg u w) o k v := by
  have e : ∀ o' k', gI (mg u (sI w o k v)) o' k' = gI (sI (mg u w) o k v) o' k' := fun o' k' => by
    rcases Nat.lt_or_ge o' 153 with q | q
    · rw [(mgC u _ q).1, gI_sI, if_neg (by omega), (mgC u w q).1]
    · rw [(mgR u _ q).1, gI_sI, gI_sI, (mgR u w q).1]
  exact St.ext3 (fun o' => funext (e o')) (fun o' => rfl) (fun o' => rfl)
/-- frames of the two, as one -/
theorem mg_fr {W V : List PL} {u u' w w' : St} (h1 : Fr W u u') (h2 : Fr V w w') : Fr (W ++ V) (mg u w) (mg u' w') := fun o k hk => by
  rw [List.any_append] at hk
  have k1 : W.any (covers · o k) = false := by
    cases e : W.any (covers · o k)
    · rfl
    · rw [e, Bool.true_or] at hk; exact absurd hk (by decide)
  have k2 : V.any (covers · o k) = false := by
    cases e : V.any (covers · o k)
    · rfl
    · rw [e, Bool.or_true] at hk; exact absurd hk (by decide)
  rcases Nat.lt_or_ge o 153 with q | q
  · rw [(mgC u' w' q).1, (mgC u' w' q).2.1, (mgC u' w' q).2.2, (mgC u w q).1, (mgC u w q).2.1, (mgC u w q).2.2]
    exact h1 o k k1
  · rw [(mgR u' w' q).1, (mgR u' w' q).2.1, (mgR u' w' q).2.2, (mgR u w q).1, (mgR u w q).2.1, (mgR u w q).2.2]
    exact h2 o k k2
/-- what holds of the two as one, on one side -/
theorem mg_sameC {S : List PL} (u w : St) (hS : S.all (fun x => decide (x.1 < 153)) = true) : Same S (mg u w) u := fun o k hk => by
  obtain ⟨x, hx, hc⟩ := List.any_eq_true.mp hk
  have h1 := List.all_eq_true.mp hS x hx
  simp [covers] at h1 hc
  have ho : o < 153 := by omega
  rw [(mgC u w ho).1, (mgC u w ho).2.1, (mgC u w ho).2.2]
  exact ⟨rfl, rfl, rfl⟩
theorem mg_sameR {S : List PL} (u w : St) (hS : S.all (fun x => decide (153 ≤ x.1)) = true) : Same S (mg u w) w := fun o k hk => by
  obtain ⟨x, hx, hc⟩ := List.any_eq_true.mp hk
  have h1 := List.all_eq_true.mp hS x hx
  simp [covers] at h1 hc
  have ho : 153 ≤ o := by omega
  rw [(mgR u w ho).1, (mgR u w ho).2.1, (mgR u w ho).2.2]
  exact ⟨rfl, rfl, rfl⟩
/-! axes and events, one place of each side set -/
theorem axOK.c11 {f g : Nat → Int32} (h : axOK f) (e : ∀ k, k ≠ 11 → g k = f k) : axOK g := by
  unfold axOK at h ⊢
  rw [e 0 (by omega), e 1 (by omega), e 2 (by omega), e 3 (by omega), e 4 (by omega), e 5 (by omega), e 6 (by omega), e 7 (by omega), e 10 (by omega)]
  exact h
theorem axOK.c7 {f g : Nat → Int32} (h : axOK f) (e : ∀ k, k ≠ 7 → g k = f k) {v : Int32} (e7 : g 7 = v) (hv : v = -1 ∨ (f 0 ≠ 0 ∧ ¬ v < f 1 ∧ ¬ f 2 < v)) : axOK g := by
  unfold axOK at h ⊢
  rw [e 0 (by omega), e 1 (by omega), e 2 (by omega), e 3 (by omega), e 4 (by omega), e 5 (by omega), e 6 (by omega), e 10 (by omega), e7]
  rcases h with ⟨o1, o2⟩ | ⟨o1, lo, hi, sp, ac, fl, p1, p2, p3, p4, p5, p6, p7, p8, p9, p10, p11, p12, p13, p14⟩
  · rcases hv with c | ⟨c, -⟩
    · exact Or.inl ⟨o1, c⟩
    · exact absurd o1 c
  · refine Or.inr ⟨o1, lo, hi, sp, ac, fl, p1, p2, p3, p4, p5, p6, p7, p8, p9, p10, p11, p12, ?_, p14⟩
    rcases hv with c | ⟨-, c1, c2⟩
    · exact Or.inl c
    · rw [p1] at c1
      rw [p2] at c2
      rcases rngN v lo hi (by omega) (by omega) with ⟨j, j1, j2, j3, -⟩ | ⟨g, -⟩ | ⟨⟨-, g⟩, -⟩
      · exact Or.inr ⟨j, j1, j2, j3⟩
      · exact absurd g c1
      · exact absurd g c2
theorem ax_set {m : St} (h : P_ax m) {n k : Nat} (hn : n < 8) (v : Int32) (hk : k = 11 ∨ k = 7) (hv : k = 7 → v = -1 ∨ (gI m (8 + 2 * n) 0 ≠ 0 ∧ ¬ v < gI m (8 + 2 * n) 1 ∧ ¬ gI m (8 + 2 * n) 2 < v ∧ gI m 4 2 = 0)) : P_ax (sI (sI m (8 + 2 * n) k v) (198 + k) n v) := by
  obtain ⟨h1, h2, h3, h4, h5⟩ := h
  have r : ∀ n' k', n' < 8 → gI (sI (sI m (8 + 2 * n) k v) (198 + k) n v) (8 + 2 * n') k' = if n' = n ∧ k' = k then v else gI m (8 + 2 * n') k' := fun n' k' hn' => by
    rw [gI_sI, if_neg (by omega), gI_sI]
    by_cases c : n' = n ∧ k' = k
    · rw [if_pos c, if_pos (by omega)]
    · rw [if_neg c, if_neg (by omega)]
  have q : ∀ n' k', n' < 8 → k' < 12 → gI (sI (sI m (8 + 2 * n) k v) (198 + k) n v) (198 + k') n' = if n' = n ∧ k' = k then v else gI m (198 + k') n' := fun n' k' hn' hk' => by
    rw [gI_sI]
    by_cases c : n' = n ∧ k' = k
    · rw [if_pos c, if_pos (by omega)]
    · rw [if_neg c, if_neg (by omega), gI_sI, if_neg (by omega)]
  have g4 : gI (sI (sI m (8 + 2 * n) k v) (198 + k) n v) 4 2 = gI m 4 2 := by rw [gI_sI, if_neg (by omega), gI_sI, if_neg (by omega)]
  have g67 : gI (sI (sI m (8 + 2 * n) k v) (198 + k) n v) 153 67 = gI m 153 67 := by rw [gI_sI, if_neg (by omega), gI_sI, if_neg (by omega)]
  refine ⟨fun n' k' hn' hk' => ?_, fun n' hn' => ?_, by rw [g4, g67]; exact h3, by rw [g4]; exact h4, fun e n' hn' => ?_⟩
  · rw [r n' k' hn', q n' k' hn' hk']
    by_cases c : n' = n ∧ k' = k
    · rw [if_pos c, if_pos c]
    · rw [if_neg c, if_neg c]; exact h1 n' k' hn' hk'
  · by_cases c : n' = n
    · subst c
      rcases hk with rfl | rfl
      · exact (h2 n' hn').c11 (fun j hj => by rw [r n' j hn', if_neg (by omega)])
      · exact (h2 n' hn').c7 (fun j hj => by rw [r n' j hn', if_neg (by omega)]) (v := v) (by rw [r n' 7 hn', if_pos ⟨rfl, rfl⟩]) (by
          rcases hv rfl with e | ⟨e1, e2, e3, -⟩
          · exact Or.inl e
          · exact Or.inr ⟨e1, e2, e3⟩)
    · exact (h2 n' hn').congr (fun j hj => by rw [r n' j hn', if_neg (by omega)])
  · rw [g4] at e
    rw [r n' 7 hn']
    by_cases c : n' = n ∧ 7 = k
    · rw [if_pos c]
      rcases hv c.2.symm with e' | ⟨-, -, -, v6⟩
      · exact e'
      · rw [v6] at e; exact absurd e (by decide)
    · rw [if_neg c]; exact h5 e n' hn'
theorem ev_set {m : St} (h : P_ev m) (n : Nat) (v : Int32) (hv : v = 0 ∨ v = 1) : P_ev (sI (sI m 6 n v) 210 n v) := by
  obtain ⟨h1, h2⟩ := h
  have r : ∀ k, gI (sI (sI m 6 n v) 210 n v) 6 k = if k = n then v else gI m 6 k := fun k => by
    rw [gI_sI, if_neg (by omega), gI_sI]
    by_cases c : k = n
    · rw [if_pos c, if_pos ⟨rfl, c⟩]
    · rw [if_neg c, if_neg (by omega)]
  have q : ∀ k, gI (sI (sI m 6 n v) 210 n v) 210 k = if k = n then v else gI m 210 k := fun k => by
    rw [gI_sI]
    by_cases c : k = n
    · rw [if_pos c, if_pos ⟨rfl, c⟩]
    · rw [if_neg c, if_neg (by omega), gI_sI, if_neg (by omega)]
  refine ⟨funext fun k => ?_, fun k => ?_⟩
  · rw [r, q, h1]
  · rw [r]
    by_cases c : k = n
    · rw [if_pos c]; exact hv
    · rw [if_neg c]; exact h2 k
/-! to -/
def WTo : List PL := [(8, some 7), (10, some 7), (12, some 7), (14, some 7), (16, some 7), (18, some 7), (20, some 7), (22, some 7), (8, some 11), (10, some 11), (12, some 11), (14, some 11), (16, some 11), (18, some 11), (20, some 11), (22, some 11)]
def WTr : List PL := [(205, none), (209, none), (153, some 71), (153, some 72)]
theorem WTo_n {n k : Nat} (hn : n < 8) (hk : k = 7 ∨ k = 11) {a b : St} (h : Fr [(8 + 2 * n, some k)] a b) : Fr WTo a b := by
  have : ∀ n, n < 8 → within' [(8 + 2 * n, some 7)] WTo = true ∧ within' [(8 + 2 * n, some 11)] WTo = true := by decide
  rcases hk with rfl | rfl
  · exact h.wd (this n hn).1
  · exact h.wd (this n hn).2
/-- an axis is sent: class at u, reference at w -/
theorem send_2 {L : Nat → Option LK} {u w : St} (hTu : Top u) (hTw : Top w) (hA : P_ax (mg u w)) (hE : P_ev (mg u w)) (hC : LCk L u) (hR : LRk L w) {n : Nat} (hn : n < 8) {fu : Nat} (hf : 100 ≤ fu) (p : Int32) : ∃ r u' w', f_X7_send fu 4 (nI n) p u = some (nI (Bool.toNat r), u') ∧ f_X12_goesTo fu 153 (nI n) p w = some (nI (Bool.toNat r), w') ∧ Fr WTo u u' ∧ Fr WTr w w' ∧ Top u' ∧ Top w' ∧ P_ax (mg u' w') := by
  have eC : ∀ k, gI (mg u w) (8 + 2 * n) k = gI u (8 + 2 * n) k := fun k => by rw [(mgC u w (o := 8 + 2 * n) (by omega)).1]
  have eR : ∀ k n', k < 12 → gI (mg u w) (198 + k) n' = gI w (198 + k) n' := fun k n' _ => by rw [(mgR u w (o := 198 + k) (by omega)).1]
  have e6 : gI (mg u w) 6 = gI u 6 := (mgC u w (by omega)).1
  have e210 : gI (mg u w) 210 = gI w 210 := (mgR u w (by omega)).1
  have e4 : gI (mg u w) 4 2 = gI u 4 2 := by rw [(mgC u w (o := 4) (by omega)).1]
  have e67 : gI (mg u w) 153 67 = gI w 153 67 := by rw [(mgR u w (o := 153) (by omega)).1]
  have hE6 : ∀ k, gI u 6 k = 0 ∨ gI u 6 k = 1 := fun k => by rw [← e6]; exact hE.2 k
  have q1 := lkC hC hTu hE6 hn hf
  obtain ⟨w1, q2, fr1, hT1⟩ := lkR hR hTw (E := gI u 6) (A := axA u) (fun k _ => ⟨by rw [← e210, ← hE.1, e6], hE6 k⟩) (fun k hk => by
    have a : ∀ j, j < 12 → gI w (198 + j) k = axA u k j := fun j hj => by
      show _ = gI u (8 + 2 * k) j
      rw [← (mgR u w (o := 198 + j) (by omega)).1, ← (mgC u w (o := 8 + 2 * k) (by omega)).1]
      exact (hA.1 k j hk hj).symm
    exact ⟨a 0 (by omega), a 8 (by omega), a 9 (by omega)⟩) hn hf
  obtain ⟨b, hb⟩ : ∃ b, b = lkV (L n) (gI u 6) (axA u) := ⟨_, rfl⟩
  rw [← hb] at q1 q2
  have s := send_c hTu hn q1 p
  have ok : axOK (fun k => gI w (198 + k) n) := (hA.2.1 n hn).congr (fun k hk => by rw [hA.1 n k hn hk, eR k n hk])
  obtain ⟨u0, f0, hT0, g⟩ := goesTo_r hTw hn q2 fr1 hT1 ok p
  have me : mayA (fun k => gI w (198 + k) n) (gI w 153 67) b p = mayA (gI u (8 + 2 * n)) (gI u 4 2) b p := by
    rw [← e4, ← e67, hA.2.2.1]
    exact mayA.c _ _ _ (fun k hk => by rw [← eC, ← eR k n hk]; exact (hA.1 n k hn hk).symm)
  rw [me] at g
  obtain ⟨y, hy⟩ : ∃ y, y = mayA (gI u (8 + 2 * n)) (gI u 4 2) b p := ⟨_, rfl⟩
  rw [← hy] at s g
  have hA0 : P_ax (mg u u0) := hA.fr ((mg_fr (Fr.rf (W := []) (st := u)) f0).same (by decide))
  have c0 : ∀ k, gI (mg u u0) (8 + 2 * n) k = gI u (8 + 2 * n) k := fun k => by rw [(mgC u u0 (o := 8 + 2 * n) (by omega)).1]
  cases y with
  | true =>
    refine ⟨true, _, _, s, g, WTo_n hn (Or.inl rfl) (Fr.i u (8 + 2 * n) 7 p), (f0.tr (Fr.ia u0 205 n p)).wd (by decide), hTu.r rfl, hT0.r rfl, ?_⟩
    have hy := hy.symm
    unfold mayA at hy
    simp only [Bool.and_eq_true, decide_eq_true_eq] at hy
    obtain ⟨⟨⟨⟨⟨y0, y1⟩, y2⟩, y3⟩, y4⟩, y5⟩ := hy
    show P_ax (mg (sI u (8 + 2 * n) 7 p) (sI u0 205 n p))
    rw [mg_sR _ _ (by omega), mg_sC _ _ (by omega)]
    refine ax_set hA0 hn p (k := 7) (Or.inr rfl) (fun _ => Or.inr ?_)
    rw [c0, c0, c0, (mgC u u0 (o := 4) (by omega)).1]
    exact ⟨y0, y1, y2, y4⟩
  | false =>
    refine ⟨false, _, _, s, g, WTo_n hn (Or.inr rfl) (Fr.i u (8 + 2 * n) 11 _), (f0.tr (Fr.ia u0 209 n _)).wd (by decide), hTu.r rfl, hT0.r rfl, ?_⟩
    have e11 : gI u0 209 n = gI u (8 + 2 * n) 11 := by
      rw [f0.fi 209 (by decide), ← eR 11 n (by omega), ← eC]
      exact (hA.1 n 11 hn (by omega)).symm
    show P_ax (mg (sI u (8 + 2 * n) 11 (gI u (8 + 2 * n) 11 + nI 1)) (sI u0 209 n (gI u0 209 n + nI 1)))
    rw [e11, mg_sR _ _ (by omega), mg_sC _ _ (by omega)]
    exact ax_set hA0 hn _ (k := 11) (Or.inl rfl) (fun h => absurd h (by decide))
theorem to_2 {st : St} (hT : Top st) (hP : P_lk st) (hE : P_ev st) (hA : P_ax st) (fu : Nat) (hf : 100 ≤ fu) (a p : Int32) : Two (f_X11_to fu 1 a p) (f_X12_to fu 153 a p) (WTo ++ WTr) P_ax st := by
  rcases rngN a 0 7 (by omega) (by omega) with ⟨n, -, hn, rfl, -⟩ | ⟨ng, na⟩ | ⟨⟨-, ng⟩, na⟩
  · obtain ⟨hc, L, hC, hR⟩ := hP
    have hn : n < 8 := by omega
    obtain ⟨r, u', w', s1, -, fr1, -, hT1, -, -⟩ := send_2 hT hT (by rw [mg_self]; exact hA) (by rw [mg_self]; exact hE) hC hR hn hf p
    have m1 : mg st u' = st := mg_c fr1 (by decide)
    obtain ⟨r2, u2, w2, t1, t2, tr1, tr2, hT2, hTw, hA2⟩ := send_2 (L := L) hT hT1 (by rw [m1]; exact hA) (by rw [m1]; exact hE) hC (hR.fr (fr1.same (by decide))) hn hf p
    rw [s1] at t1
    have ee := Option.some.inj t1
    have e2 : u' = u2 := congrArg Prod.snd ee
    have e1 : nI r.toNat = nI r2.toNat := congrArg Prod.fst ee
    subst e2
    rw [← e1] at t2
    have m2 : mg u' w2 = w2 := mg_r tr2 (by decide)
    rw [m2] at hA2
    have ia : f_X12_isAxis fu (nI n) u' = some (nI 1, u') := by
      rw [isAxis_eq, if_pos ⟨(nI_leI (a := 0) (b := n) (by omega) (by omega)).mpr (by omega), (nI_leI (a := n) (b := 7) (by omega) (by omega)).mpr (by omega)⟩]; rfl
    refine ⟨nI r.toNat, u', w2, ?_, ?_, fr1.tr tr2, hA2⟩
    · clear hC hR hA hE hA2 t1 ee
      unfold f_X11_to
      rw [tp_1_1 hT, ck_t (show ¬ 4 = 0 by decide), ck_t (show (kd 1).1 = 11 from rfl), bd_e, ck_t (show (kd 4).1 = 7 from rfl), s1, ca_s, ck_t (bN r)]
    · unfold f_X12_to b_X12_to_20 b_X12_to_21
      rw [ia, ca_s, if_neg (show ¬ nI 1 = 0 by decide), ck_t (show (kd 153).1 = 12 from rfl), t2, ca_s]
      cases r
      · rfl
      · rfl
  all_goals
    have ia : f_X12_isAxis fu a st = some (nI 0, st) := by rw [isAxis_eq, if_neg (show ¬ ((0 : Int32) ≤ a ∧ a ≤ 7) from na)]; rfl
    refine ⟨nI 0, st, st, ?_, ?_, Fr.rf, hA⟩
    · have es : f_X7_send fu 4 a p st = some (nI 0, st) := by
        unfold f_X7_send b_X7_send_10
        by_cases c : a < 0
        · rw [if_pos c]; rfl
        · have c7 : ¬ a ≤ 7 := fun z => na ⟨by
            show (0 : Int32) ≤ a
            rw [Int32.lt_iff_toInt_lt] at c
            rw [Int32.le_iff_toInt_le]
            omega, z⟩
          rw [if_neg c, if_neg c7]; rfl
      unfold f_X11_to
      rw [tp_1_1 hT, ck_t (show ¬ 4 = 0 by decide), ck_t (show (kd 1).1 = 11 from rfl), bd_e, ck_t (show (kd 4).1 = 7 from rfl), es, ca_s]
      rfl
    · unfold f_X12_to b_X12_to_20 b_X12_to_21
      rw [ia, ca_s, if_pos (show nI 0 = 0 from rfl)]
      rfl
