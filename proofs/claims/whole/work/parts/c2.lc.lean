/-! PURE: the text of a list, in the class: names, channels, acts -/
def SQ (q : Nat) : Prop := q = 30 ∨ q = 44 ∨ q = 62 ∨ q = 80 ∨ q = 98
theorem sqR {q : Nat} (hq : SQ q) {st : St} (hT : Top st) : gR st q 0 = q + 1 ∧ gR st q 1 = q + 2 ∧ gR st q 2 = q + 3 ∧ gR st q 3 = q + 4 ∧ gR st q 4 = q + 5 ∧ gR st q 5 = q + 6 ∧ gR st q 6 = q + 7 ∧ gR st q 7 = q + 8 ∧ gR st q 8 = q + 9 ∧ gR st q 9 = q + 10 ∧ gR st q 10 = q + 11 ∧ gR st q 11 = q + 12 := by
  rcases hq with rfl | rfl | rfl | rfl | rfl
  · exact ⟨tp_30_0 hT, tp_30_1 hT, tp_30_2 hT, tp_30_3 hT, tp_30_4 hT, tp_30_5 hT, tp_30_6 hT, tp_30_7 hT, tp_30_8 hT, tp_30_9 hT, tp_30_10 hT, tp_30_11 hT⟩
  · exact ⟨tp_44_0 hT, tp_44_1 hT, tp_44_2 hT, tp_44_3 hT, tp_44_4 hT, tp_44_5 hT, tp_44_6 hT, tp_44_7 hT, tp_44_8 hT, tp_44_9 hT, tp_44_10 hT, tp_44_11 hT⟩
  · exact ⟨tp_62_0 hT, tp_62_1 hT, tp_62_2 hT, tp_62_3 hT, tp_62_4 hT, tp_62_5 hT, tp_62_6 hT, tp_62_7 hT, tp_62_8 hT, tp_62_9 hT, tp_62_10 hT, tp_62_11 hT⟩
  · exact ⟨tp_80_0 hT, tp_80_1 hT, tp_80_2 hT, tp_80_3 hT, tp_80_4 hT, tp_80_5 hT, tp_80_6 hT, tp_80_7 hT, tp_80_8 hT, tp_80_9 hT, tp_80_10 hT, tp_80_11 hT⟩
  · exact ⟨tp_98_0 hT, tp_98_1 hT, tp_98_2 hT, tp_98_3 hT, tp_98_4 hT, tp_98_5 hT, tp_98_6 hT, tp_98_7 hT, tp_98_8 hT, tp_98_9 hT, tp_98_10 hT, tp_98_11 hT⟩
theorem sqK {q : Nat} (hq : SQ q) : kd q = (8, 0) ∧ kd (q + 1) = (100, 60) ∧ kd (q + 2) = (100, 60) ∧ kd (q + 3) = (100, 60) ∧ kd (q + 4) = (100, 60) ∧ kd (q + 5) = (100, 60) ∧ kd (q + 6) = (100, 60) ∧ kd (q + 7) = (100, 60) ∧ kd (q + 8) = (100, 61) ∧ kd (q + 9) = (100, 300) ∧ kd (q + 10) = (100, 300) ∧ kd (q + 11) = (100, 300) ∧ kd (q + 12) = (103, 300) := by
  rcases hq with rfl | rfl | rfl | rfl | rfl <;> exact ⟨rfl, rfl, rfl, rfl, rfl, rfl, rfl, rfl, rfl, rfl, rfl, rfl, rfl⟩
theorem SQ.b {q : Nat} (hq : SQ q) : 30 ≤ q ∧ q ≤ 98 := by unfold SQ at hq; omega
theorem readName_p {st : St} (hT : Top st) {b : BY} {n t : Nat} (h : TC b n 4000 t st) {fu : Nat} (hf : 4100 ≤ fu) (q : Nat) : ∃ v u, f_X8_readName fu q 2 st = some (nI v, u) ∧ v ≤ 99999 ∧ Fr WT st u ∧ Top u ∧ CO b n (pName b n t) (fun a => v = a) u := by
  obtain ⟨v, u, e, fr, hTu, l1, l2, co⟩ := number_p hT h hf (lo := 1) (hi := 999) (by omega) (by omega) (by omega)
  unfold pName
  cases hp : pNum b n 1 999 t with
  | inr e' =>
    rw [hp] at co
    have hD : TD b n 4000 e'.1 e'.2 u := co
    have tk := takes_d hTu hD fu (nI 46)
    refine ⟨100 * v, u, ?_, by omega, fr, hTu, hD⟩
    clear h co hD
    simp (disch := first | decide | omega) [isb, ck_tt, NP, NF, NC, NB, NS, GS, kdC, tpC hT, f_X8_readName, b_X8_readName_34, e, tk]
  | inl x =>
    obtain ⟨x, t1⟩ := x
    rw [hp] at co
    obtain ⟨hC, hv⟩ := co
    have hv : v = x := hv
    obtain ⟨u1, e1, fr1, hT1, hC1⟩ := takes_p hTu hC hf (c := 46) (by omega) (by omega)
    rw [pb_i]
    have hC1 : TC b n 4000 (if so b n t1 = 46 then t1 + 1 else t1) u1 := hC1
    have e1 : f_X9_takes fu 2 (nI 46) u = some (nI (if so b n t1 = 46 then 1 else 0), u1) := e1
    by_cases c : so b n t1 = 46
    · rw [if_pos c] at e1 hC1 ⊢
      obtain ⟨y, u2, e2, fr2, hT2, l3, l4, co2⟩ := number_p hT1 hC1 hf (lo := 1) (hi := 99) (by omega) (by omega) (by omega)
      refine ⟨100 * v + y, u2, ?_, by omega, (fr.tt fr1).tt fr2, hT2, ?_⟩
      · clear h hC hC1 co2
        simp (disch := first | decide | omega) [isb, ck_tt, NP, NF, NC, NB, NS, GS, kdC, tpC hT, f_X8_readName, b_X8_readName_34, e, e1, e2]
      · cases hp2 : pNum b n 1 99 (t1 + 1) with
        | inr e' => rw [hp2] at co2; exact co2
        | inl z =>
          obtain ⟨z, t2⟩ := z
          rw [hp2] at co2
          obtain ⟨a, d⟩ := co2
          have d : y = z := d
          exact ⟨a, by rw [hv, d]⟩
    · rw [if_neg c] at e1 hC1 ⊢
      refine ⟨100 * v, u1, ?_, by omega, fr.tt fr1, hT1, hC1, by rw [hv]⟩
      clear h hC hC1
      simp (disch := first | decide | omega) [isb, ck_tt, NP, NF, NC, NB, NS, GS, kdC, tpC hT, f_X8_readName, b_X8_readName_34, e, e1]
theorem readName_d {st : St} (hT : Top st) {b : BY} {n f p : Nat} (h : TD b n 4000 f p st) (fu q : Nat) : ∃ u, f_X8_readName fu q 2 st = some (nI 100, u) ∧ Fr WT st u ∧ Top u ∧ TD b n 4000 f p u := by
  obtain ⟨u, e, fr, hTu, hD⟩ := number_d hT h fu (nI 1) (nI 999)
  have tk := takes_d hTu hD fu (nI 46)
  refine ⟨u, ?_, fr, hTu, hD⟩
  clear h hD
  simp (disch := first | decide | omega) [isb, ck_tt, NP, NF, NC, NB, NS, GS, kdC, tpC hT, f_X8_readName, b_X8_readName_34, e, tk]
theorem chb {x y : Nat} (h1 : 1 ≤ x) (h2 : x ≤ y) (h3 : y ≤ 64) : ((((-1 : Int64).toUInt64 >>> ((63 - (nI y - nI x)).toInt64.toUInt64 &&& Int64.toUInt64 63)).toInt64) <<< ((nI x - 1).toInt64 &&& 63)) = lN (bts x y) := by
  have : ∀ x, x < 65 → ∀ y, y < 65 → 1 ≤ x → x ≤ y → ((((-1 : Int64).toUInt64 >>> ((63 - (nI y - nI x)).toInt64.toUInt64 &&& Int64.toUInt64 63)).toInt64) <<< ((nI x - 1).toInt64 &&& 63)) = lN (bts x y) := by decide +kernel
  exact this x (by omega) y (by omega) h1 h2
theorem rch42 {s : St} (fu : Nat) (K : Nat → Int64 → Int32 → St → Option (Int64 × St)) (x1 : Int64) (i x y : Int32) : b_X8_readChannels_42 fu K 2 x1 i x y s = ca (f_X9_takes fu 2 (nI 44) s) fun r s' => if r = 0 then some (x1 ||| ((((-1 : Int64).toUInt64 >>> ((63 - (y - x)).toInt64.toUInt64 &&& Int64.toUInt64 63)).toInt64) <<< ((x - 1).toInt64 &&& 63)), s') else K 2 (x1 ||| ((((-1 : Int64).toUInt64 >>> ((63 - (y - x)).toInt64.toUInt64 &&& Int64.toUInt64 63)).toInt64) <<< ((x - 1).toInt64 &&& 63))) (i + 1) s' := by
  unfold b_X8_readChannels_42 b_X8_readChannels_82
  rw [bd_e, ck_t (show (kd 2).1 = 9 from rfl)]
  rfl
theorem rch_l {b : BY} {n : Nat} {fu : Nat} (hf : 4100 ≤ fu) : ∀ (g F i m t : Nat) (st : St), n < g + t → g < F → 2 * i ≤ t → Top st → TC b n 4000 t st → ∃ v u, b_X8_readChannels_4 fu F 2 (lN m) (nI i) st = some (v, u) ∧ Fr WT st u ∧ Top u ∧ CO b n (pChs b n g m t) (fun a => v = lN a) u := by
  intro g
  induction g with
  | zero =>
    intro F i m t st hg hF hi hT h
    obtain ⟨G, rfl⟩ : ∃ G, F = G + 1 := ⟨F - 1, by omega⟩
    have tl := h.2.1.2.2.2
    have s2 : so b n t ≠ 2 := fun e => by have := so_t (b := b) (n := n) (t := t) (by omega); omega
    obtain ⟨-, -, N3⟩ := number_c hT h hf (lo := 1) (hi := 64) (by omega) (by omega)
    obtain ⟨s, e, fr, hTs, hD⟩ := N3 s2
    have tk := takes_d hTs hD fu (nI 45)
    have tk2 := takes_d hTs hD fu (nI 44)
    have r := rch42 (s := s) fu (b_X8_readChannels_4 fu G) (lN m) (nI i) (nI 1) (nI 1)
    rw [tk2, ca_s, if_pos (show nI 0 = 0 from rfl)] at r
    refine ⟨lN m ||| ((((-1 : Int64).toUInt64 >>> ((63 - (nI 1 - nI 1)).toInt64.toUInt64 &&& Int64.toUInt64 63)).toInt64) <<< ((nI 1 - 1).toInt64 &&& 63)), s, ?_, fr, hTs, hD⟩
    · show b_X8_readChannels_4_b fu (b_X8_readChannels_4 fu G) 2 (lN m) (nI i) st = _
      rw [← r]
      unfold b_X8_readChannels_4_b
      rw [if_neg (show ¬ (4000 : Int32) ≤ nI i from fun q => by have := (nI_leI (a := 4000) (b := i) (by omega) (by omega)).mp q; omega), ck_t (show (kd 2).1 = 9 from rfl), show f_X9_number fu 2 1 64 st = some (nI 1, s) from e, ca_s, ck_t (show (kd 2).1 = 9 from rfl), show f_X9_takes fu 2 45 s = some (nI 0, s) from tk, ca_s, if_pos (show nI 0 = 0 from rfl)]
  | succ g ih =>
    intro F i m t st hg hF hi hT h
    obtain ⟨G, rfl⟩ : ∃ G, F = G + 1 := ⟨F - 1, by omega⟩
    have tl := h.2.1.2.2.2
    have n4 := h.1.2.1
    obtain ⟨v, s, e, fr, hTs, l1, l2, co⟩ := number_p hT h hf (lo := 1) (hi := 64) (by omega) (by omega) (by omega)
    have hd : ∀ (x y : Nat) (s2 : St), (ca (f_X9_takes fu 2 45 s) fun r3 s4 => if r3 = 0 then b_X8_readChannels_42 fu (b_X8_readChannels_4 fu G) 2 (lN m) (nI i) (nI v) (nI v) s4 else ck ((kd 2).1 = 9) <| ca (f_X9_number fu 2 (nI v) 64 s4) fun r9 s10 => b_X8_readChannels_42 fu (b_X8_readChannels_4 fu G) 2 (lN m) (nI i) (nI v) r9 s10) = b_X8_readChannels_42 fu (b_X8_readChannels_4 fu G) 2 (lN m) (nI i) (nI x) (nI y) s2 → b_X8_readChannels_4 fu (G + 1) 2 (lN m) (nI i) st = b_X8_readChannels_42 fu (b_X8_readChannels_4 fu G) 2 (lN m) (nI i) (nI x) (nI y) s2 := fun x y s2 hx => by
      rw [← hx]
      show b_X8_readChannels_4_b fu (b_X8_readChannels_4 fu G) 2 (lN m) (nI i) st = _
      unfold b_X8_readChannels_4_b
      rw [if_neg (show ¬ (4000 : Int32) ≤ nI i from fun q => by have := (nI_leI (a := 4000) (b := i) (by omega) (by omega)).mp q; omega), ck_t (show (kd 2).1 = 9 from rfl), show f_X9_number fu 2 1 64 st = some (nI v, s) from e, ca_s, ck_t (show (kd 2).1 = 9 from rfl)]
    have dead : ∀ (y : Nat) (s2 : St) (f p : Nat), TD b n 4000 f p s2 → Top s2 → Fr WT st s2 → b_X8_readChannels_4 fu (G + 1) 2 (lN m) (nI i) st = b_X8_readChannels_42 fu (b_X8_readChannels_4 fu G) 2 (lN m) (nI i) (nI v) (nI y) s2 → ∃ w u, b_X8_readChannels_4 fu (G + 1) 2 (lN m) (nI i) st = some (w, u) ∧ Fr WT st u ∧ Top u ∧ TD b n 4000 f p u := fun y s2 f p hD hT2 fr2 e2 => by
      have tk2 := takes_d hT2 hD fu (nI 44)
      rw [e2, rch42, tk2, ca_s, if_pos (show nI 0 = 0 from rfl)]
      exact ⟨_, s2, rfl, fr2, hT2, hD⟩
    have e4 : pChs b n (g + 1) m t = pb (pNum b n 1 64 t) fun x t1 => pb (if so b n t1 = 45 then pNum b n x 64 (t1 + 1) else .inl (x, t1)) fun y t2 => if so b n t2 = 44 then pChs b n g (m ||| bts x y) (t2 + 1) else .inl (m ||| bts x y, t2) := rfl
    rw [e4]
    cases hp : pNum b n 1 64 t with
    | inr e' =>
      rw [hp] at co
      have hD : TD b n 4000 e'.1 e'.2 s := co
      have tk := takes_d hTs hD fu (nI 45)
      obtain ⟨w, u, a1, a2, a3, a4⟩ := dead v s e'.1 e'.2 hD hTs fr (hd v v s (by rw [show f_X9_takes fu 2 45 s = some (nI 0, s) from tk, ca_s, if_pos (show nI 0 = 0 from rfl)]))
      exact ⟨w, u, a1, a2, a3, a4⟩
    | inl x =>
      obtain ⟨x, t1⟩ := x
      rw [hp] at co
      obtain ⟨hC, hv⟩ := co
      have hv : v = x := hv
      subst hv
      have hC : TC b n 4000 t1 s := hC
      obtain ⟨-, -, -, -, et⟩ := pNum_i hp
      rw [pb_i]
      -- behind the number or the range
      have tail : ∀ (y t2 : Nat) (s2 : St), v ≤ y → y ≤ 64 → t1 ≤ t2 → TC b n 4000 t2 s2 → Top s2 → Fr WT st s2 → b_X8_readChannels_4 fu (G + 1) 2 (lN m) (nI i) st = b_X8_readChannels_42 fu (b_X8_readChannels_4 fu G) 2 (lN m) (nI i) (nI v) (nI y) s2 → ∃ w u, b_X8_readChannels_4 fu (G + 1) 2 (lN m) (nI i) st = some (w, u) ∧ Fr WT st u ∧ Top u ∧ CO b n (if so b n t2 = 44 then pChs b n g (m ||| bts v y) (t2 + 1) else .inl (m ||| bts v y, t2)) (fun a => w = lN a) u := fun y t2 s2 y1 y2 t12 hC2 hT2 fr2 e2 => by
        obtain ⟨u1, x1, fr1, hT1, hC1⟩ := takes_p hT2 hC2 hf (c := 44) (by omega) (by omega)
        rw [rch42, chb l1 y1 y2, lN_or, x1, ca_s] at e2
        by_cases c : so b n t2 = 44
        · rw [if_pos c] at e2 hC1 ⊢
          have := so_t (b := b) (n := n) (t := t2) (by omega)
          rw [if_neg (show ¬ nI 1 = 0 by decide), show nI i + 1 = nI (i + 1) from nI_add i 1] at e2
          obtain ⟨w, u, r1, r2, r3, r4⟩ := ih G (i + 1) (m ||| bts v y) (t2 + 1) u1 (by omega) (by omega) (by omega) hT1 hC1
          exact ⟨w, u, by rw [e2]; exact r1, (fr2.tt fr1).tt r2, r3, r4⟩
        · rw [if_neg c] at e2 hC1 ⊢
          rw [if_pos (show nI 0 = 0 from rfl)] at e2
          exact ⟨_, u1, e2, fr2.tt fr1, hT1, hC1, rfl⟩
      obtain ⟨u1, x1, fr1, hT1, hC1⟩ := takes_p hTs hC hf (c := 45) (by omega) (by omega)
      by_cases c : so b n t1 = 45
      · rw [if_pos c] at x1 hC1 ⊢
        obtain ⟨y, u2, x2, fr2, hT2, l3, l4, co2⟩ := number_p hT1 hC1 hf (lo := v) (hi := 64) (by omega) (by omega) (by omega)
        have hd2 := hd v y u2 (by rw [show f_X9_takes fu 2 45 s = some (nI 1, u1) from x1, ca_s, if_neg (show ¬ nI 1 = 0 by decide), ck_t (show (kd 2).1 = 9 from rfl), show f_X9_number fu 2 (nI v) 64 u1 = some (nI y, u2) from x2, ca_s])
        cases hp2 : pNum b n v 64 (t1 + 1) with
        | inr e' =>
          rw [hp2] at co2
          exact dead y u2 e'.1 e'.2 co2 hT2 ((fr.tt fr1).tt fr2) hd2
        | inl z =>
          obtain ⟨z, t2⟩ := z
          rw [hp2] at co2
          obtain ⟨a, d⟩ := co2
          have d : y = z := d
          subst d
          have := (pNum_i hp2).2.2.2.2
          rw [pb_i]
          exact tail y t2 u2 l3 l4 (by omega) a hT2 ((fr.tt fr1).tt fr2) hd2
      · rw [if_neg c] at x1 hC1 ⊢
        rw [pb_i]
        exact tail v t1 u1 (Nat.le_refl _) l2 (Nat.le_refl _) hC1 hT1 (fr.tt fr1) (hd v v u1 (by rw [show f_X9_takes fu 2 45 s = some (nI 0, u1) from x1, ca_s, if_pos (show nI 0 = 0 from rfl)]))
theorem fW_6 {b : BY} {n t : Nat} (w : Nat) : fW b n t w 6 = if wB b n t w then 0 else if wB b n t (w + 1) then 1 else if wB b n t (w + 2) then 2 else if wB b n t (w + 3) then 3 else if wB b n t (w + 4) then 4 else if wB b n t (w + 5) then 5 else 6 := by
  unfold fW fW fW fW fW fW fW
  cases wB b n t w <;> cases wB b n t (w + 1) <;> cases wB b n t (w + 1 + 1) <;> cases wB b n t (w + 1 + 1 + 1) <;> cases wB b n t (w + 1 + 1 + 1 + 1) <;> cases wB b n t (w + 1 + 1 + 1 + 1 + 1) <;> rfl
theorem kindAt_c {st : St} (hT : Top st) {b : BY} {n t : Nat} (h : TC b n 4000 t st) {fu : Nat} (hf : 100 ≤ fu) : f_X8_kindAt fu 2 st = some (if fW b n t 8 6 = 6 then -nI 1 else nI (fW b n t 8 6), st) := by
  have w0 := isWord_p hT h hf (w := 8) (by omega)
  have w1 := isWord_p hT h hf (w := 9) (by omega)
  have w2 := isWord_p hT h hf (w := 10) (by omega)
  have w3 := isWord_p hT h hf (w := 11) (by omega)
  have w4 := isWord_p hT h hf (w := 12) (by omega)
  have w5 := isWord_p hT h hf (w := 13) (by omega)
  rw [fW_6]
  clear h
  cases e0 : wB b n t 8 <;> rw [e0] at w0
  · cases e1 : wB b n t 9 <;> rw [e1] at w1
    · cases e2 : wB b n t 10 <;> rw [e2] at w2
      · cases e3 : wB b n t 11 <;> rw [e3] at w3
        · cases e4 : wB b n t 12 <;> rw [e4] at w4
          · cases e5 : wB b n t 13 <;> rw [e5] at w5
            · simp only [Bool.toNat_false] at w0 w1 w2 w3 w4 w5
              simp (disch := first | decide | omega) [isb, ck_tt, NP, NF, NC, NB, NS, GS, kdC, tpC hT, f_X8_kindAt, b_X8_kindAt_69, w0, w1, w2, w3, w4, w5]
            · simp only [Bool.toNat_false, Bool.toNat_true] at w0 w1 w2 w3 w4 w5
              simp (disch := first | decide | omega) [isb, ck_tt, NP, NF, NC, NB, NS, GS, kdC, tpC hT, f_X8_kindAt, b_X8_kindAt_69, w0, w1, w2, w3, w4, w5]
          · simp only [Bool.toNat_false, Bool.toNat_true] at w0 w1 w2 w3 w4
            simp (disch := first | decide | omega) [isb, ck_tt, NP, NF, NC, NB, NS, GS, kdC, tpC hT, f_X8_kindAt, b_X8_kindAt_69, w0, w1, w2, w3, w4]
        · simp only [Bool.toNat_false, Bool.toNat_true] at w0 w1 w2 w3
          simp (disch := first | decide | omega) [isb, ck_tt, NP, NF, NC, NB, NS, GS, kdC, tpC hT, f_X8_kindAt, w0, w1, w2, w3]
      · simp only [Bool.toNat_false, Bool.toNat_true] at w0 w1 w2
        simp (disch := first | decide | omega) [isb, ck_tt, NP, NF, NC, NB, NS, GS, kdC, tpC hT, f_X8_kindAt, w0, w1, w2]
    · simp only [Bool.toNat_false, Bool.toNat_true] at w0 w1
      simp (disch := first | decide | omega) [isb, ck_tt, NP, NF, NC, NB, NS, GS, kdC, tpC hT, f_X8_kindAt, w0, w1]
  · simp only [Bool.toNat_true] at w0
    simp (disch := first | decide | omega) [isb, ck_tt, NP, NF, NC, NB, NS, GS, kdC, tpC hT, f_X8_kindAt, w0]
theorem optionAt_c {st : St} (hT : Top st) {b : BY} {n t : Nat} (h : TC b n 4000 t st) {fu : Nat} (hf : 100 ≤ fu) : f_X8_optionAt fu 2 st = some (if fW b n t 2 6 = 6 then -nI 1 else nI (fW b n t 2 6), st) := by
  have w0 := isWord_p hT h hf (w := 2) (by omega)
  have w1 := isWord_p hT h hf (w := 3) (by omega)
  have w2 := isWord_p hT h hf (w := 4) (by omega)
  have w3 := isWord_p hT h hf (w := 5) (by omega)
  have w4 := isWord_p hT h hf (w := 6) (by omega)
  have w5 := isWord_p hT h hf (w := 7) (by omega)
  rw [fW_6]
  clear h
  cases e0 : wB b n t 2 <;> rw [e0] at w0
  · cases e1 : wB b n t 3 <;> rw [e1] at w1
    · cases e2 : wB b n t 4 <;> rw [e2] at w2
      · cases e3 : wB b n t 5 <;> rw [e3] at w3
        · cases e4 : wB b n t 6 <;> rw [e4] at w4
          · cases e5 : wB b n t 7 <;> rw [e5] at w5
            · simp only [Bool.toNat_false] at w0 w1 w2 w3 w4 w5
              simp (disch := first | decide | omega) [isb, ck_tt, NP, NF, NC, NB, NS, GS, kdC, tpC hT, f_X8_optionAt, b_X8_optionAt_69, w0, w1, w2, w3, w4, w5]
            · simp only [Bool.toNat_false, Bool.toNat_true] at w0 w1 w2 w3 w4 w5
              simp (disch := first | decide | omega) [isb, ck_tt, NP, NF, NC, NB, NS, GS, kdC, tpC hT, f_X8_optionAt, b_X8_optionAt_69, w0, w1, w2, w3, w4, w5]
          · simp only [Bool.toNat_false, Bool.toNat_true] at w0 w1 w2 w3 w4
            simp (disch := first | decide | omega) [isb, ck_tt, NP, NF, NC, NB, NS, GS, kdC, tpC hT, f_X8_optionAt, b_X8_optionAt_69, w0, w1, w2, w3, w4]
        · simp only [Bool.toNat_false, Bool.toNat_true] at w0 w1 w2 w3
          simp (disch := first | decide | omega) [isb, ck_tt, NP, NF, NC, NB, NS, GS, kdC, tpC hT, f_X8_optionAt, w0, w1, w2, w3]
      · simp only [Bool.toNat_false, Bool.toNat_true] at w0 w1 w2
        simp (disch := first | decide | omega) [isb, ck_tt, NP, NF, NC, NB, NS, GS, kdC, tpC hT, f_X8_optionAt, w0, w1, w2]
    · simp only [Bool.toNat_false, Bool.toNat_true] at w0 w1
      simp (disch := first | decide | omega) [isb, ck_tt, NP, NF, NC, NB, NS, GS, kdC, tpC hT, f_X8_optionAt, w0, w1]
  · simp only [Bool.toNat_true] at w0
    simp (disch := first | decide | omega) [isb, ck_tt, NP, NF, NC, NB, NS, GS, kdC, tpC hT, f_X8_optionAt, w0]
