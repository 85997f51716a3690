/-! PURE: the text of a list: what a good one holds -/
def CFb (D : LD) (i : Nat) : Prop := 100 ≤ D 0 i ∧ D 0 i ≤ 99999 ∧ D 1 i ≤ 9999 ∧ D 2 i ≤ 9999 ∧ D 3 i ≤ 9999 ∧ D 4 i ≤ 9999 ∧ D 5 i ≤ 99999
def AFb (D : LD) (i : Nat) : Prop := D 8 i < 6 ∧ D 10 i ≤ 99999 ∧ D 11 i < 2 ^ 64 ∧ (D 8 i ≠ 0 → D 11 i = 0 ∧ D 9 i ≤ mo (D 8 i)) ∧ (D 8 i = 0 ∨ D 8 i = 5 → D 10 i ≤ 255)
def LOK (c a : Nat) (D : LD) : Prop := c ≤ 60 ∧ a ≤ 300 ∧ D 7 0 = 0 ∧ D 7 c = a ∧ (∀ i, i < c → CFb D i ∧ D 7 i ≤ D 7 (i + 1) ∧ (D 6 i = D 7 i ∨ (0 < i ∧ D 6 i = D 6 (i - 1)))) ∧ ∀ i, i < a → AFb D i
theorem CFb.c {D E : LD} {i : Nat} (h : CFb D i) (e : ∀ j, j < 6 → E j i = D j i) : CFb E i := by
  unfold CFb at h ⊢
  rw [e 0 (by omega), e 1 (by omega), e 2 (by omega), e 3 (by omega), e 4 (by omega), e 5 (by omega)]
  exact h
theorem AFb.c {D E : LD} {i : Nat} (h : AFb D i) (e : ∀ j, 8 ≤ j → E j i = D j i) : AFb E i := by
  unfold AFb at h ⊢
  rw [e 8 (by omega), e 9 (by omega), e 10 (by omega), e 11 (by omega)]
  exact h
theorem pOpt_D {b : BY} {n c a o t t1 : Nat} {D D1 : LD} (h : pOpt b n c a o D t = .inl (D1, t1)) : (∀ j i, 7 ≤ j ∨ i ≠ c → D1 j i = D j i) ∧ D1 0 c = D 0 c ∧ t ≤ t1 ∧ (CFb D c → CFb D1 c) ∧ (D1 6 c = D 6 c ∨ D1 6 c = a) := by
  have fin : ∀ k v, 1 ≤ k → k ≤ 5 → v ≤ 99999 → (k < 5 → v ≤ 9999) → D1 = st1 D k c v → (∀ j i, 7 ≤ j ∨ i ≠ c → D1 j i = D j i) ∧ D1 0 c = D 0 c ∧ (CFb D c → CFb D1 c) ∧ (D1 6 c = D 6 c ∨ D1 6 c = a) := fun k v k1 k5 v1 v2 e => by
    subst e
    refine ⟨fun j i hji => st1_n _ _ (by omega), st1_n _ _ (by omega), fun hb => ?_, Or.inl (st1_n _ _ (by omega))⟩
    have h5 : k = 1 ∨ k = 2 ∨ k = 3 ∨ k = 4 ∨ k = 5 := by omega
    unfold CFb at hb ⊢
    rcases h5 with rfl | rfl | rfl | rfl | rfl <;> simp [st1] <;> omega
  have num : ∀ lo k, 1 ≤ k → k ≤ 4 → pb (pNum b n lo 9999 t) (fun v t1 => .inl (st1 D k c v, t1)) = (.inl (D1, t1) : PR LD) → (∀ j i, 7 ≤ j ∨ i ≠ c → D1 j i = D j i) ∧ D1 0 c = D 0 c ∧ t ≤ t1 ∧ (CFb D c → CFb D1 c) ∧ (D1 6 c = D 6 c ∨ D1 6 c = a) := fun lo k k1 k4 h => by
    obtain ⟨x, t2, h1, h2⟩ := pb_inl h
    obtain ⟨-, -, -, a4, a5⟩ := pNum_i h1
    injection h2 with h2
    injection h2 with h3 h4
    obtain ⟨x1, x2, x3, x4⟩ := fin k x k1 (by omega) (by omega) (fun _ => a4) h3.symm
    exact ⟨x1, x2, by omega, x3, x4⟩
  unfold pOpt at h
  by_cases o0 : o = 0
  · rw [if_pos o0] at h; exact num _ 1 (by omega) (by omega) h
  · rw [if_neg o0] at h
    by_cases o1 : o = 1
    · rw [if_pos o1] at h; exact num _ 2 (by omega) (by omega) h
    · rw [if_neg o1] at h
      by_cases o2 : o = 2
      · rw [if_pos o2] at h; exact num _ 3 (by omega) (by omega) h
      · rw [if_neg o2] at h
        by_cases o3 : o = 3
        · rw [if_pos o3] at h; exact num _ 4 (by omega) (by omega) h
        · rw [if_neg o3] at h
          by_cases o4 : o = 4
          · rw [if_pos o4] at h
            injection h with h2
            injection h2 with h3 h4
            subst h3
            refine ⟨fun j i hji => st1_n _ _ (by omega), st1_n _ _ (by omega), by omega, fun hb => hb.c (fun j hj => st1_n _ _ (by omega)), Or.inr (st1_e _ _ _ _)⟩
          · rw [if_neg o4] at h
            obtain ⟨x, t2, h1, h2⟩ := pb_inl h
            have a1 := pName_i h1
            injection h2 with h2
            injection h2 with h3 h4
            obtain ⟨x1, x2, x3, x4⟩ := fin 5 x (by omega) (by omega) (by omega) (fun h => by omega) h3.symm
            exact ⟨x1, x2, by omega, x3, x4⟩
theorem pOpts_D {b : BY} {n c a : Nat} : ∀ {g M t t1 : Nat} {D D1 : LD}, pOpts b n c a g M D t = .inl (D1, t1) → (∀ j i, 7 ≤ j ∨ i ≠ c → D1 j i = D j i) ∧ D1 0 c = D 0 c ∧ t < t1 ∧ t1 ≤ n ∧ (CFb D c → CFb D1 c) ∧ (D1 6 c = D 6 c ∨ D1 6 c = a)
  | 0, M, t, t1, D, D1, h => by cases h
  | g + 1, M, t, t1, D, D1, h => by
    have ep : pOpts b n c a (g + 1) M D t = if fW b n t 2 6 < 6 then (if M / 2 ^ fW b n t 2 6 % 2 = 1 then .inr (3, pl b n t) else pb (pOpt b n c a (fW b n t 2 6) D (t + 1)) fun D1 t1 => pOpts b n c a g (M ||| 2 ^ fW b n t 2 6) D1 t1) else pb (pSg b n 123 t) fun _ t1 => .inl (D, t1) := rfl
    rw [ep] at h
    by_cases o6 : fW b n t 2 6 < 6
    · rw [if_pos o6] at h
      by_cases sb : M / 2 ^ fW b n t 2 6 % 2 = 1
      · rw [if_pos sb] at h; cases h
      · rw [if_neg sb] at h
        obtain ⟨D2, t2, h1, h2⟩ := pb_inl h
        obtain ⟨x1, x2, x3, x4, x5⟩ := pOpt_D h1
        obtain ⟨y1, y2, y3, y4, y5, y6⟩ := pOpts_D h2
        refine ⟨fun j i hji => by rw [y1 j i hji, x1 j i hji], by rw [y2, x2], by omega, y4, fun hb => y5 (x4 hb), ?_⟩
        rcases y6 with e | e
        · rw [e]; exact x5
        · exact Or.inr e
    · rw [if_neg o6] at h
      obtain ⟨x, t2, h1, h2⟩ := pb_inl h
      have a1 := pSg_i h1
      have := so_t (b := b) (n := n) (t := t) (by omega)
      injection h2 with h2
      injection h2 with h3 h4
      subst h3
      exact ⟨fun _ _ _ => rfl, rfl, by omega, by omega, fun hb => hb, Or.inl rfl⟩
theorem pActL_i {b : BY} {n a t t' : Nat} {x : AC} (h : pActL b n a t = .inl (x, t')) : a < 300 ∧ pAct b n t = .inl (x, t') := by
  unfold pActL at h
  by_cases c : fW b n t 8 6 < 6 ∧ 300 ≤ a
  · rw [if_pos c] at h; cases h
  · rw [if_neg c] at h
    have q := pAct_i h
    exact ⟨by omega, h⟩
theorem pActs_D {b : BY} {n : Nat} : ∀ {g a t t1 : Nat} {D : LD} {x : Nat × LD}, pActs b n g a D t = .inl (x, t1) → (∀ j i, j < 8 ∨ i < a → x.2 j i = D j i) ∧ t < t1 ∧ t1 ≤ n ∧ a ≤ x.1 ∧ (a ≤ 300 → x.1 ≤ 300) ∧ ((∀ i, i < a → AFb D i) → ∀ i, i < x.1 → AFb x.2 i)
  | 0, a, t, t1, D, x, h => by cases h
  | g + 1, a, t, t1, D, x, h => by
    have ep : pActs b n (g + 1) a D t = if so b n t = 125 then .inl ((a, D), t + 1) else pb (pActL b n a t) fun x t1 => pb (pSg b n 59 t1) fun _ t2 => pActs b n g (a + 1) (stA D a x.1 x.2.1 x.2.2.1 x.2.2.2) t2 := rfl
    rw [ep] at h
    by_cases s : so b n t = 125
    · rw [if_pos s] at h
      have := so_t (b := b) (n := n) (t := t) (by omega)
      injection h with h2
      injection h2 with h3 h4
      subst h3
      exact ⟨fun _ _ _ => rfl, by omega, by omega, Nat.le_refl _, fun q => q, fun q => q⟩
    · rw [if_neg s] at h
      obtain ⟨y, t2, h1, h2⟩ := pb_inl h
      obtain ⟨z, t3, h3, h4⟩ := pb_inl h2
      obtain ⟨a3, h1⟩ := pActL_i h1
      obtain ⟨q1, q2, q3, q4, q5, q6, q7, q8⟩ := pAct_i h1
      have := (pSg_i h3).2
      obtain ⟨y1, y2, y3, y4, y5, y6⟩ := pActs_D h4
      refine ⟨fun j i hji => ?_, by omega, y3, by omega, fun _ => y5 (by omega), fun hA => y6 (fun i hi => ?_)⟩
      · rw [y1 j i (by omega)]
        unfold stA
        rw [st1_n _ _ (by omega), st1_n _ _ (by omega), st1_n _ _ (by omega), st1_n _ _ (by omega)]
      · by_cases e : i = a
        · subst e
          unfold AFb
          rw [stA_8, stA_9, stA_10, stA_11, if_pos rfl, if_pos rfl, if_pos rfl, if_pos rfl]
          exact ⟨q3, q4, q5, q7, q8⟩
        · refine (hA i (by omega)).c (fun j hj => ?_)
          unfold stA
          rw [st1_n _ _ (by omega), st1_n _ _ (by omega), st1_n _ _ (by omega), st1_n _ _ (by omega)]
theorem hd0_o (D : LD) (c nm : Nat) {j i : Nat} (h : 7 ≤ j ∨ i ≠ c) : hd0 D c nm j i = D j i := by
  unfold hd0
  rw [st1_n _ _ (by omega), st1_n _ _ (by omega), st1_n _ _ (by omega), st1_n _ _ (by omega), st1_n _ _ (by omega), st1_n _ _ (by omega), st1_n _ _ (by omega)]
theorem hd0_6 (D : LD) (c nm : Nat) : hd0 D c nm 6 c = if c = 0 then 0 else D 6 (c - 1) := st1_e _ _ _ _
theorem hd0_0 (D : LD) (c nm : Nat) : hd0 D c nm 0 c = nm := by simp [hd0, st1]
theorem hd0_b (D : LD) (c nm : Nat) (h1 : 100 ≤ nm) (h2 : nm ≤ 99999) : CFb (hd0 D c nm) c := by
  unfold CFb
  simp [hd0, st1]
  omega
theorem pHead_i {b : BY} {n c t nm t1 : Nat} {D : LD} (h : pHead b n c D t = .inl (nm, t1)) : c < 60 ∧ 100 ≤ nm ∧ nm ≤ 99999 ∧ t + 1 < t1 ∧ isW b n t 1 := by
  unfold pHead at h
  by_cases w : wB b n t 1 = true
  · rw [if_pos w] at h
    by_cases c6 : 60 ≤ c
    · rw [if_pos c6] at h; cases h
    · rw [if_neg c6] at h
      obtain ⟨x, t2, h1, h2⟩ := pb_inl h
      have a1 := pName_i h1
      by_cases ord : 0 < c ∧ x ≤ D 0 (c - 1)
      · rw [if_pos ord] at h2; cases h2
      · rw [if_neg ord] at h2
        injection h2 with h2
        injection h2 with h3 h4
        exact ⟨by omega, by omega, by omega, by omega, wB_t.mp w⟩
  · rw [if_neg w] at h; cases h
set_option maxHeartbeats 8000000 in
theorem pCue_i {b : BY} {n c a t t1 : Nat} {D : LD} {x : Nat × LD} (h : pCue b n c a D t = .inl (x, t1)) : t < t1 ∧ t1 ≤ n ∧ c < 60 ∧ a ≤ x.1 ∧ (LOK c a D → LOK (c + 1) x.1 x.2) := by
  obtain ⟨nm, t2, h1, h2⟩ := pb_inl h
  obtain ⟨D2, t3, h3, h4⟩ := pb_inl h2
  obtain ⟨y, t4, h5, h6⟩ := pb_inl h4
  obtain ⟨a1, a2, a3, a4, -⟩ := pHead_i h1
  obtain ⟨b1, b2, b3, b4, b5, b6⟩ := pOpts_D h3
  obtain ⟨c1, c2, c3, c4, c5, c6⟩ := pActs_D h5
  injection h6 with h6
  injection h6 with h7 h8
  subst h7
  refine ⟨by omega, by omega, a1, c4, fun ⟨k1, k2, k3, k4, k5, k6⟩ => ?_⟩
  have old : ∀ j i, i ≠ c → j < 8 → y.2 j i = D j i := fun j i hi hj => by rw [c1 j i (by omega), b1 j i (by omega), hd0_o _ _ _ (by omega)]
  have o7 : ∀ i, y.2 7 i = D 7 i := fun i => by rw [c1 7 i (by omega), b1 7 i (by omega), hd0_o _ _ _ (by omega)]
  refine ⟨by omega, c5 k2, ?_, st1_e _ _ _ _, fun i hi => ?_, fun i hi => ?_⟩
  · show st1 y.2 7 (c + 1) y.1 7 0 = 0
    rw [st1_n _ _ (by omega), o7]; exact k3
  · show CFb (st1 y.2 7 (c + 1) y.1) i ∧ st1 y.2 7 (c + 1) y.1 7 i ≤ st1 y.2 7 (c + 1) y.1 7 (i + 1) ∧ (st1 y.2 7 (c + 1) y.1 6 i = st1 y.2 7 (c + 1) y.1 7 i ∨ (0 < i ∧ st1 y.2 7 (c + 1) y.1 6 i = st1 y.2 7 (c + 1) y.1 6 (i - 1)))
    rw [st1_n (j := 7) (x := 7) (y := i) _ _ (by omega), st1_n (x := 6) _ _ (by omega), st1_n (x := 6) (y := i - 1) _ _ (by omega), o7]
    by_cases e : i = c
    · subst e
      refine ⟨CFb.c (D := D2) ?_ (fun j hj => ?_), ?_, ?_⟩
      · exact b5 (hd0_b D i nm a2 a3)
      · rw [st1_n _ _ (by omega), c1 j i (by omega)]
      · rw [st1_e, k4]; exact c4
      · have e6 : y.2 6 i = D2 6 i := c1 6 i (by omega)
        rw [e6]
        rcases b6 with q | q
        · rw [q, hd0_6]
          by_cases i0 : i = 0
          · subst i0
            left; rw [if_pos rfl, k3]
          · right
            rw [if_neg i0, old 6 (i - 1) (by omega) (by omega)]
            exact ⟨by omega, rfl⟩
        · left; rw [q, k4]
    · obtain ⟨z1, z2, z3⟩ := k5 i (by omega)
      refine ⟨z1.c (fun j hj => ?_), ?_, ?_⟩
      · rw [st1_n _ _ (by omega)]; exact old j i e (by omega)
      · rw [st1_n _ _ (by omega), o7]; exact z2
      · rw [old 6 i e (by omega)]
        rcases z3 with q | q
        · exact Or.inl q
        · right
          rw [old 6 (i - 1) (by omega) (by omega)]; exact q
  · refine AFb.c (c6 (fun j hj => ?_) i hi) (fun j hj => st1_n _ _ (by omega))
    refine (k6 j hj).c (fun k hk => ?_)
    rw [b1 k j (by omega), hd0_o _ _ _ (by omega)]
theorem pList_i {b : BY} {n : Nat} : ∀ {g c a t t1 : Nat} {D : LD} {x : Nat × Nat × LD}, pList b n g c a D t = .inl (x, t1) → LOK c a D → LOK x.1 x.2.1 x.2.2
  | 0, c, a, t, t1, D, x, h, _ => by cases h
  | g + 1, c, a, t, t1, D, x, h, hL => by
    have ep : pList b n (g + 1) c a D t = if so b n t = 0 then .inl ((c, a, D), t) else pb (pCue b n c a D t) fun x t1 => pList b n g (c + 1) x.1 x.2 t1 := rfl
    rw [ep] at h
    by_cases s : so b n t = 0
    · rw [if_pos s] at h
      injection h with h2
      injection h2 with h3 h4
      subst h3
      exact hL
    · rw [if_neg s] at h
      obtain ⟨y, t2, h1, h2⟩ := pb_inl h
      exact pList_i h2 ((pCue_i h1).2.2.2.2 hL)
/-! the class reads the whole -/
def SC (q c a : Nat) (D : LD) (st : St) : Prop := gI st q 12 = nI c ∧ CU q c D st ∧ AC1 q a D st ∧ ∀ i, i ≤ c → gI st (q + 8) i = nI (D 7 i)
def Ws (q : Nat) : List PL := [(2, some 2), (2, some 3), (2, some 4), (2, some 5), (2, some 6), (2, some 8), (2, some 9), (q, some 12), (q, some 13), (q + 1, none), (q + 2, none), (q + 3, none), (q + 4, none), (q + 5, none), (q + 6, none), (q + 7, none), (q + 8, none), (q + 9, none), (q + 10, none), (q + 11, none), (q + 12, none)]
theorem Ws_o {q : Nat} {a b : St} (h : Fr (Wo q) a b) : Fr (Ws q) a b := h.sub (by simp [Wo, Ws])
theorem Ws_b {q : Nat} {a b : St} (h : Fr (Wb q) a b) : Fr (Ws q) a b := h.sub (by simp [Wb, Ws])
theorem AC1.o {q a : Nat} {D E : LD} {s u : St} (h : AC1 q a D s) (hq : 4 ≤ q) (fr : Fr (Wo q) s u) (e : ∀ j i, 7 ≤ j → E j i = D j i) : AC1 q a E u := by
  obtain ⟨h1, h2⟩ := h
  refine ⟨by rw [Wo_q fr hq]; exact h1, fun i hi => ?_⟩
  rw [fr.fi (q + 9) (by simp [Wo] <;> omega), fr.fi (q + 10) (by simp [Wo] <;> omega), fr.fi (q + 11) (by simp [Wo] <;> omega), fr.fl (q + 12) (by simp [Wo] <;> omega), e 8 i (by omega), e 9 i (by omega), e 10 i (by omega), e 11 i (by omega)]
  exact h2 i hi
theorem rd26_d {s : St} {b : BY} {n f p : Nat} (h : TD b n 4000 f p s) (fu F : Nat) {q i : Nat} (hi : i ≤ 61) : b_X8_read_26 fu (F + 1) q 2 (nI i) s = some s := by
  have d2 := h.2.2.2.2.2.2
  show b_X8_read_26_b fu (b_X8_read_26 fu F) q 2 (nI i) s = _
  clear h
  by_cases c : i = 61
  · subst c
    simp (disch := first | decide | omega) [b_X8_read_26_b, b_X8_read_60, NF, NC, NB]
  · simp (disch := first | decide | omega) [b_X8_read_26_b, b_X8_read_60, ck_tt, NF, NC, NB, kdC, d2]
set_option maxHeartbeats 8000000 in
theorem rd26_p {b : BY} {n : Nat} {fu : Nat} (hf : 4100 ≤ fu) {q : Nat} (hq : SQ q) : ∀ (g F c a t : Nat) (D : LD) (st : St), n < g + t → t ≤ n → 62 < F + c → Top st → TC b n 4000 t st → SC q c a D st → LOK c a D → ∃ u, b_X8_read_26 fu F q 2 (nI c) st = some u ∧ Fr (Ws q) st u ∧ Top u ∧ CO b n (pList b n g c a D t) (fun x => SC q x.1 x.2.1 x.2.2 u) u := by
  have qb := hq.b
  have K := sqK hq
  intro g
  induction g with
  | zero => intro F c a t D st hg ht; omega
  | succ g ih =>
    intro F c a t D st hg ht hF hT h hS hL
    obtain ⟨G, rfl⟩ : ∃ G, F = G + 1 := ⟨F - 1, by have := hL.1; omega⟩
    obtain ⟨hc, hU, hA, h8⟩ := hS
    have c60 := hL.1
    have n4 := h.1.2.1
    have c2 := h.2.2.2.2.1
    have ep : pList b n (g + 1) c a D t = if so b n t = 0 then .inl ((c, a, D), t) else pb (pCue b n c a D t) fun x t1 => pList b n g (c + 1) x.1 x.2 t1 := rfl
    rw [ep]
    by_cases s0 : so b n t = 0
    · rw [if_pos s0]
      rw [s0, show kc 0 = 0 from rfl] at c2
      refine ⟨st, ?_, Fr.rf, hT, h, hc, hU, hA, h8⟩
      show b_X8_read_26_b fu (b_X8_read_26 fu G) q 2 (nI c) st = _
      clear h hU hA h8 hL ih ep
      simp (disch := first | decide | omega) [isb, ck_tt, NP, NF, NC, NB, NS, GS, kdC, tpC hT, b_X8_read_26_b, b_X8_read_60, c2]
    · rw [if_neg s0]
      have k0 : kc (so b n t) ≠ 0 ∧ kc (so b n t) < 10 := by
        unfold kc
        by_cases h1 : so b n t = 3
        · rw [if_pos h1]; omega
        · rw [if_neg h1]
          by_cases h2 : 3 < so b n t
          · rw [if_pos h2]; omega
          · rw [if_neg h2]; omega
      obtain ⟨s1, e1, fr1, hT1, co1⟩ := head_p hT h hf hq hc c60 hU (fun x hx => (hL.2.2.2.2.1 x hx).1.2.1)
      have hd : ∀ s2 s3 s4, f_X8_readOptions fu q 2 s1 = some s2 → f_X9_need fu 2 (nI 123) s2 = some s3 → b_X8_readBody_8 fu fu q 2 (nI 0) s3 = some s4 → b_X8_read_26 fu (G + 1) q 2 (nI c) st = b_X8_read_26 fu G q 2 (nI (c + 1)) s4 := fun s2 s3 s4 x2 x3 x4 => by
        show b_X8_read_26_b fu (b_X8_read_26 fu G) q 2 (nI c) st = _
        have x5 : f_X8_readBody fu q 2 s2 = some s4 := by
          unfold f_X8_readBody
          rw [ck_t (show (kd 2).1 = 9 from rfl), show f_X9_need fu 2 123 s2 = some s3 from x3, cv_s]
          exact x4
        clear h hU hA h8 hL ih ep co1
        simp (disch := first | decide | omega) [isb, ck_tt, NP, NF, NC, NB, NS, GS, kdC, tpC hT, b_X8_read_26_b, K, c2, e1, x2, x5]
      obtain ⟨Fu, hFu⟩ : ∃ Fu, fu = Fu + 1 := ⟨fu - 1, by omega⟩
      obtain ⟨H, rfl⟩ : ∃ H, G = H + 1 := ⟨G - 1, by omega⟩
      have dead : ∀ f p s2 s3, f_X8_readOptions fu q 2 s1 = some s2 → f_X9_need fu 2 (nI 123) s2 = some s3 → TD b n 4000 f p s3 → Top s3 → Fr (Ws q) st s3 → ∃ u, b_X8_read_26 fu (H + 1 + 1) q 2 (nI c) st = some u ∧ Fr (Ws q) st u ∧ Top u ∧ TD b n 4000 f p u := fun f p s2 s3 x2 x3 hD hT3 fr3 => by
        obtain ⟨s4, x4, fr4, hT4, hD4⟩ := rb8_d hT3 hD fu Fu hq (i := 0) (by omega)
        have x4' : b_X8_readBody_8 fu fu q 2 (nI 0) s3 = some s4 := by rw [← x4]; congr 1
        exact ⟨s4, by rw [hd s2 s3 s4 x2 x3 x4']; exact rd26_d hD4 fu H (by omega), fr3.tt (Ws_b fr4), hT4, hD4⟩
      unfold pCue
      cases hp : pHead b n c D t with
      | inr e' =>
        rw [hp] at co1
        obtain ⟨s3, x1, x2, x3, x4, x5⟩ := opts_d hT1 co1 fu Fu (q := q) (nI 0) (i := 0) (by omega)
        have x1' : f_X8_readOptions fu q 2 s1 = some s1 := by
          unfold f_X8_readOptions
          rw [← x1]; congr 1
        exact dead _ _ s1 s3 x1' x2 x5 x4 (Ws_o (fr1.tt (Wo_w x3)))
      | inl x =>
        obtain ⟨nm, t1⟩ := x
        rw [hp] at co1
        obtain ⟨hC1, hU1⟩ := co1
        have hC1 : TC b n 4000 t1 s1 := hC1
        have hU1 : CU q (c + 1) (hd0 D c nm) s1 := hU1
        obtain ⟨a1, a2, a3, a4, a5⟩ := pHead_i hp
        rw [pb_i]
        obtain ⟨s2, s3, x1, x2, x3, x4, co3⟩ := opts_p (b := b) (n := n) hf (a := a) hq a1 7 fu 0 0 t1 (hd0 D c nm) s1 (by omega) (by omega) (by omega) rfl hT1 hC1 (by rw [Wo_q fr1 (by omega)]; exact hc) (by rw [Wo_q fr1 (by omega)]; exact hA.1) hU1
        have x1' : f_X8_readOptions fu q 2 s1 = some s2 := x1
        cases hp2 : pOpts b n c a 7 0 (hd0 D c nm) t1 with
        | inr e' =>
          rw [hp2] at co3
          exact dead _ _ s2 s3 x1' x2 co3 x4 (Ws_o (fr1.tt x3))
        | inl y =>
          obtain ⟨D2, t2⟩ := y
          rw [hp2] at co3
          obtain ⟨hC3, hU3⟩ := co3
          have hC3 : TC b n 4000 t2 s3 := hC3
          have hU3 : CU q (c + 1) D2 s3 := hU3
          obtain ⟨d1, d2, d3, d4, d5, d6⟩ := pOpts_D hp2
          rw [pb_i]
          have fr3 := fr1.tt x3
          have A3 : AC1 q a D2 s3 := hA.o (by omega) fr3 (fun j i hj => by rw [d1 j i (by omega), hd0_o _ _ _ (by omega)])
          obtain ⟨s4, y1, y2, y3, co4⟩ := acts_p (b := b) (n := n) hf (c := c) hq a1 4001 fu 0 a t2 D2 s3 (by omega) (by omega) (by omega) x4 hC3 A3 hL.2.1 (by rw [Wo_q fr3 (by omega)]; exact hc)
          have hd4 := hd s2 s3 s4 x1' x2 y1
          have fr4 : Fr (Ws q) st s4 := (Ws_o fr3).tt (Ws_b y2)
          cases hp3 : pActs b n 4001 a D2 t2 with
          | inr e' =>
            rw [hp3] at co4
            exact ⟨s4, by rw [hd4]; exact rd26_d co4 fu H (by omega), fr4, y3, co4⟩
          | inl z =>
            obtain ⟨⟨a', D3⟩, t3⟩ := z
            rw [hp3] at co4
            obtain ⟨hC4, A4, a4', g12, g8⟩ := co4
            have hC4 : TC b n 4000 t3 s4 := hC4
            have A4 : AC1 q a' D3 s4 := A4
            have g8 : ∀ i, gI s4 (q + 8) i = if i = c + 1 then nI a' else gI s3 (q + 8) i := g8
            obtain ⟨f1, f2, f3, f4, f5, f6⟩ := pActs_D hp3
            have f1 : ∀ j i, j < 8 ∨ i < a → D3 j i = D2 j i := f1
            have hcue : pCue b n c a D t = .inl ((a', st1 D3 7 (c + 1) a'), t3) := by
              unfold pCue
              rw [hp, pb_i, hp2, pb_i, hp3, pb_i]
            have LK := (pCue_i hcue).2.2.2.2 hL
            rw [pb_i, pb_i]
            have S4 : SC q (c + 1) a' (st1 D3 7 (c + 1) a') s4 := by
              refine ⟨g12, fun x hx k hk => ?_, ⟨A4.1, fun i hi => ?_⟩, fun i hi => ?_⟩
              · rw [st1_n _ _ (by omega), f1 k x (by omega), y2.fi (q + 1 + k) (by simp [Wb] <;> omega)]
                exact hU3 x hx k hk
              · rw [st1_n _ _ (by omega), st1_n _ _ (by omega), st1_n _ _ (by omega), st1_n _ _ (by omega)]
                exact A4.2 i hi
              · rw [g8]
                by_cases e : i = c + 1
                · subst e; rw [if_pos rfl, st1_e]
                · rw [if_neg e, st1_n _ _ (by omega), f1 7 i (by omega), d1 7 i (by omega), hd0_o _ _ _ (by omega), fr3.fi (q + 8) (by simp [Wo] <;> omega)]
                  exact h8 i (by omega)
            obtain ⟨u, r1, r2, r3, r4⟩ := ih (H + 1) (c + 1) a' t3 _ s4 (by omega) (by omega) (by omega) y3 hC4 S4 LK
            exact ⟨u, by rw [hd4]; exact r1, fr4.tt r2, r3, r4⟩
