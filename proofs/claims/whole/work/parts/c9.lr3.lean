/-! PURE: the text of a list, in the reference: an act -/
def rk (k : Nat) : Nat := if k = 0 then 6 else k
def vk (x : AC) : Nat := if x.1 = 0 then 0 else x.2.2.1
def Wx : List PL := [(153, some 5), (153, some 6), (153, some 7), (153, some 8), (153, some 35), (153, some 38), (177, none), (180, none), (181, none), (182, none), (183, none), (184, none), (185, none)]
theorem Wx_5 {a b : St} (h : Fr W5 a b) : Fr Wx a b := h.sub (by simp [W5, Wx])
theorem Wx_6 {a b : St} (h : Fr W6 a b) : Fr Wx a b := h.sub (by simp [W6, Wx])
theorem Wx_c {a b : St} (h : Fr Wc a b) : Fr Wx a b := h.sub (by simp [Wc, Wx])
set_option maxRecDepth 100000 in
theorem top_x {a b : St} (hT : Top a) (h : Fr Wx a b) : Top b := hT.fr (h.same (by decide))
/-- the state behind an act that is kept -/
def sAk (s : St) (k a : Nat) (x3 x4 x5 : Int32) : St := sI (sI (sI (sI (sI s 180 a x3) 181 a x4) 182 a x5) 153 35 (nI (a + 1))) 177 k (gI s 177 k + nI 1)
def Wy : List PL := [(153, some 35), (177, none), (180, none), (181, none), (182, none)]
theorem sA_fr (s : St) (k a : Nat) (x3 x4 x5 : Int32) : Fr Wy s (sAk s k a x3 x4 x5) := (((((Fr.ia s 180 a x3).tr (Fr.ia _ 181 a x4)).tr (Fr.ia _ 182 a x5)).tr (Fr.i _ 153 35 _)).tr (Fr.ia _ 177 k _)).wd (by decide)
theorem Wx_y {a b : St} (h : Fr Wy a b) : Fr Wx a b := h.sub (by simp [Wy, Wx])
theorem rf_y {a b : St} (h : Fr Wy a b) : Same S_rf a b := h.same (by decide)
theorem b201_w {s : St} (hT : Top s) (fu : Nat) {k a : Nat} (hk : k < 60) (ha : a < 300) (h35 : gI s 153 35 = nI a) (fr x3 x4 x5 : Int32) : b_X12_act_201 fu 153 (nI k) fr x3 x4 x5 s = some (sAk s k a x3 x4 x5) := by
  unfold sAk
  simp (disch := first | decide | omega) [isb, ck_tt, NP, NF, NC, NB, NS, GS, kdR, tpR hT, b_X12_act_201, h35]
theorem b201_f {s : St} (fu : Nat) {k : Nat} (h35 : gI s 153 35 = nI 300) (fr x3 x4 x5 : Int32) : b_X12_act_201 fu 153 (nI k) fr x3 x4 x5 s = f_X12_tell fu 153 (nI 2) fr s := by
  unfold b_X12_act_201
  rw [ck_t (show (kd 153).1 = 12 from rfl), h35, if_pos (show nI 300 = 300 from rfl), ck_t (show (kd 153).1 = 12 from rfl)]
  show cv (f_X12_tell fu 153 (nI 2) fr s) _ = _
  cases f_X12_tell fu 153 (nI 2) fr s <;> rfl
theorem e201_D {s : St} (hT : Top s) {b : BY} {n T f p M : Nat} (h : DM b n T f p M s) (fu : Nat) {k a q : Nat} (hk : k < 60) (ha : a ≤ 300) (h35 : gI s 153 35 = nI a) (hq : q ≤ n) (hpq : p < q) (x3 x4 x5 : Int32) : ∃ u, b_X12_act_201 fu 153 (nI k) (nI q) x3 x4 x5 s = some u ∧ Fr Wx s u ∧ Top u ∧ DM b n T f p M u ∧ ∃ a', a' ≤ 300 ∧ gI u 153 35 = nI a' := by
  by_cases c : a = 300
  · subst c
    exact ⟨s, by rw [b201_f fu h35]; exact tell_D hT h fu (by omega) (by omega) hq (Or.inl hpq), Fr.rf, hT, h, 300, by omega, h35⟩
  · have fr := sA_fr s k a x3 x4 x5
    refine ⟨_, b201_w hT fu hk (by omega) h35 _ x3 x4 x5, Wx_y fr, top_x hT (Wx_y fr), h.same (rf_y fr), a + 1, by omega, ?_⟩
    unfold sAk
    rw [gI_sI_n _ _ _ (by decide), gI_sI, if_pos ⟨rfl, rfl⟩]
/-- what an act leaves -/
def APost (k a : Nat) (st u : St) (x : AC) : Prop := gI u 153 35 = nI (a + 1) ∧ (∀ i, gI u 180 i = if i = a then nI (rk x.1) else gI st 180 i) ∧ (∀ i, gI u 181 i = if i = a then nI x.2.1 else gI st 181 i) ∧ (∀ i, gI u 182 i = if i = a then nI (vk x) else gI st 182 i) ∧ (∀ i, gI u 177 i = if i = k then gI st 177 i + nI 1 else gI st 177 i) ∧ ∀ c, 1 ≤ c → c ≤ 64 → gI u 184 c = (if x.2.2.2.testBit (c - 1) then nI 1 else gI st 184 c) ∧ gI u 183 c = (if x.2.2.2.testBit (c - 1) then nI x.2.2.1 else gI st 183 c)
set_option maxHeartbeats 8000000 in
theorem e201_p {st s : St} (hT : Top s) {b : BY} {n T t : Nat} (fu : Nat) {k a : Nat} (hk : k < 60) (ha : a ≤ 300) (h35 : gI s 153 35 = nI a) (fr : Fr Wx st s) (f7 : gI s 177 = gI st 177 ∧ gI s 180 = gI st 180 ∧ gI s 181 = gI st 181 ∧ gI s 182 = gI st 182) (hw : fW b n t 8 6 < 6) (x3 x4 x5 : Int32) (h : RO b n T (T - t - 1) (pAct b n t) (fun x => (x3 = nI (rk x.1) ∧ x4 = nI x.2.1 ∧ x5 = nI (vk x)) ∧ ∀ c, 1 ≤ c → c ≤ 64 → gI s 184 c = (if x.2.2.2.testBit (c - 1) then nI 1 else gI st 184 c) ∧ gI s 183 c = (if x.2.2.2.testBit (c - 1) then nI x.2.2.1 else gI st 183 c)) s) : ∃ u, b_X12_act_201 fu 153 (nI k) (nI (pl b n t)) x3 x4 x5 s = some u ∧ Fr Wx st u ∧ Top u ∧ (∃ a', a' ≤ 300 ∧ gI u 153 35 = nI a') ∧ RO b n T (T - t - 1) (pActL b n a t) (APost k a st u) u := by
  have s0 := isW_s (fW_t b n t 6 8 hw)
  have p0 := pl_s s0
  obtain ⟨f77, f80, f81, f82⟩ := f7
  unfold pActL
  by_cases c : a = 300
  · subst c
    rw [if_pos ⟨hw, Nat.le_refl _⟩, b201_f fu h35]
    cases hp : pAct b n t with
    | inl y =>
      obtain ⟨y, t'⟩ := y
      rw [hp] at h
      have h1 : RS b n T t' s := h.1
      have := (pAct_i hp).1
      have := pl_le (b := b) (n := n) (show t + 1 ≤ t' by omega)
      obtain ⟨u, e, fr1, hT1, h2⟩ := tell_S hT h1 fu (k := 2) (q := pl b n t) (by omega) (by omega) (by omega)
      exact ⟨u, e, fr.tt (Wx_5 fr1), hT1, ⟨300, by omega, by rw [fr1.ki 153 35 (by decide)]; exact h35⟩, h2.mono (by omega)⟩
    | inr e' =>
      obtain ⟨f, p⟩ := e'
      rw [hp] at h
      have h1 : DM b n T f p (T - t - 1) s := h
      have := pAct_b hw hp
      obtain ⟨u, e, fr1, hT1, h2⟩ := tell_M hT h1 fu (k := 2) (q := pl b n t) (by omega) (by omega) (by omega)
      exact ⟨u, e, fr.tt (Wx_5 fr1), hT1, ⟨300, by omega, by rw [fr1.ki 153 35 (by decide)]; exact h35⟩, h2⟩
  · rw [if_neg (by omega)]
    have fr1 := sA_fr s k a x3 x4 x5
    have e35 : gI (sAk s k a x3 x4 x5) 153 35 = nI (a + 1) := by
      unfold sAk
      rw [gI_sI_n _ _ _ (by decide), gI_sI, if_pos ⟨rfl, rfl⟩]
    refine ⟨_, b201_w hT fu hk (by omega) h35 _ x3 x4 x5, fr.tt (Wx_y fr1), top_x hT (Wx_y fr1), ⟨a + 1, by omega, e35⟩, ?_⟩
    cases hp : pAct b n t with
    | inr e' => rw [hp] at h; exact DM.same h (rf_y fr1)
    | inl y =>
      obtain ⟨y, t'⟩ := y
      rw [hp] at h
      obtain ⟨h1, ⟨q1, q2, q3⟩, h3⟩ := h
      have h1 : RS b n T t' s := h1
      refine ⟨RfA.same h1 (rf_y fr1), e35, fun i => ?_, fun i => ?_, fun i => ?_, fun i => ?_, fun c c1 c2 => ?_⟩
      · unfold sAk
        rw [gI_sI_n _ _ _ (by decide), gI_sI_n _ _ _ (by decide), gI_sI_n _ _ _ (by decide), gI_sI_n _ _ _ (by decide), gI_sI, f80]
        by_cases e : i = a
        · rw [if_pos ⟨rfl, e⟩, if_pos e]; exact q1
        · rw [if_neg (fun x => e x.2), if_neg e]
      · unfold sAk
        rw [gI_sI_n _ _ _ (by decide), gI_sI_n _ _ _ (by decide), gI_sI_n _ _ _ (by decide), gI_sI, gI_sI_n _ _ _ (by decide), f81]
        by_cases e : i = a
        · rw [if_pos ⟨rfl, e⟩, if_pos e]; exact q2
        · rw [if_neg (fun x => e x.2), if_neg e]
      · unfold sAk
        rw [gI_sI_n _ _ _ (by decide), gI_sI_n _ _ _ (by decide), gI_sI, gI_sI_n _ _ _ (by decide), gI_sI_n _ _ _ (by decide), f82]
        by_cases e : i = a
        · rw [if_pos ⟨rfl, e⟩, if_pos e]; exact q3
        · rw [if_neg (fun x => e x.2), if_neg e]
      · unfold sAk
        rw [gI_sI, gI_sI_n _ _ _ (by decide), gI_sI_n _ _ _ (by decide), gI_sI_n _ _ _ (by decide), gI_sI_n _ _ _ (by decide), f77]
        by_cases e : i = k
        · rw [if_pos ⟨rfl, e⟩, if_pos e, e]
        · rw [if_neg (fun x => e x.2), if_neg e]
      · rw [fr1.fi 184 (by decide), fr1.fi 183 (by decide)]; exact h3 c c1 c2
/-- number, word, number -/
theorem nwn_p {st : St} (hT : Top st) {b : BY} {n T t : Nat} (h : RS b n T t st) {fu : Nat} (hf : 100 ≤ fu) {h1 h2 w : Nat} (l1 : h1 ≤ 100000) (l2 : h2 ≤ 100000) (w1 : 1 ≤ w) (w2 : w < 24) : ∃ x a1 a2 v a3, f_X12_number fu 153 (nI 0) (nI h1) st = some (nI x, a1) ∧ f_X12_needWord fu 153 w a1 = some a2 ∧ f_X12_number fu 153 (nI 0) (nI h2) a2 = some (nI v, a3) ∧ Fr W5 st a3 ∧ Top a3 ∧ RO b n T (T - t - 1) (pb (pNum b n 0 h1 t) fun x' t2 => pb (pb (pWd b n w t2) fun _ t3 => pNum b n 0 h2 t3) fun v' t4 => .inl ((x', v'), t4) : PR (Nat × Nat)) (fun y => x = y.1 ∧ v = y.2) a3 := by
  obtain ⟨x, a1, e1, k1, fr1, hT1, co1⟩ := num_p hT h fu (lo := 0) (hi := h1) (by omega) l1
  cases hp : pNum b n 0 h1 t with
  | inr e' =>
    rw [hp] at co1
    obtain ⟨a2, e2, fr2, hT2, d2⟩ := needW_D hT1 co1 hf w1 w2
    obtain ⟨v, a3, e3, k3, fr3, hT3, d3⟩ := num_D hT2 d2 fu (lo := 0) (hi := h2) (by omega) l2
    exact ⟨x, a1, a2, v, a3, e1, e2, e3, (fr1.tt fr2).tt fr3, hT3, d3.mono (by omega)⟩
  | inl y =>
    obtain ⟨y, t1⟩ := y
    rw [hp] at co1
    obtain ⟨r1, hv⟩ := co1
    have hv : x = y := hv
    subst hv
    have r1 : RS b n T t1 a1 := r1
    have := (pNum_i hp).2.2.2.2
    obtain ⟨a2, e2, fr2, hT2, co2⟩ := needW_q hT1 r1 hf w1 w2
    rw [pb_i]
    cases hp2 : pWd b n w t1 with
    | inr e' =>
      rw [hp2] at co2
      obtain ⟨v, a3, e3, k3, fr3, hT3, d3⟩ := num_D hT2 co2 fu (lo := 0) (hi := h2) (by omega) l2
      exact ⟨x, a1, a2, v, a3, e1, e2, e3, (fr1.tt fr2).tt fr3, hT3, d3.mono (by omega)⟩
    | inl z =>
      obtain ⟨z, t2⟩ := z
      rw [hp2] at co2
      have r2 : RS b n T t2 a2 := co2.1
      have := (pWd_i hp2).2
      obtain ⟨v, a3, e3, k3, fr3, hT3, co3⟩ := num_p hT2 r2 fu (lo := 0) (hi := h2) (by omega) l2
      refine ⟨x, a1, a2, v, a3, e1, e2, e3, (fr1.tt fr2).tt fr3, hT3, ?_⟩
      rw [pb_i]
      cases hp3 : pNum b n 0 h2 t2 with
      | inr e' => rw [hp3] at co3; exact DM.mono co3 (by omega)
      | inl q =>
        rw [hp3] at co3
        exact ⟨co3.1, rfl, co3.2⟩
theorem nwn_D {st : St} (hT : Top st) {b : BY} {n T f p M : Nat} (h : DM b n T f p M st) {fu : Nat} (hf : 100 ≤ fu) {h1 h2 w : Nat} (l1 : h1 ≤ 100000) (l2 : h2 ≤ 100000) (w1 : 1 ≤ w) (w2 : w < 24) : ∃ x a1 a2 v a3, f_X12_number fu 153 (nI 0) (nI h1) st = some (nI x, a1) ∧ f_X12_needWord fu 153 w a1 = some a2 ∧ f_X12_number fu 153 (nI 0) (nI h2) a2 = some (nI v, a3) ∧ Fr W5 st a3 ∧ Top a3 ∧ DM b n T f p M a3 := by
  obtain ⟨x, a1, e1, k1, fr1, hT1, d1⟩ := num_D hT h fu (lo := 0) (hi := h1) (by omega) l1
  obtain ⟨a2, e2, fr2, hT2, d2⟩ := needW_D hT1 d1 hf w1 w2
  obtain ⟨v, a3, e3, k3, fr3, hT3, d3⟩ := num_D hT2 d2 fu (lo := 0) (hi := h2) (by omega) l2
  exact ⟨x, a1, a2, v, a3, e1, e2, e3, (fr1.tt fr2).tt fr3, hT3, d3.mono (by omega)⟩
theorem W5_k {a b : St} (h : Fr W5 a b) : gI b 153 35 = gI a 153 35 ∧ gI b 177 = gI a 177 ∧ gI b 180 = gI a 180 ∧ gI b 181 = gI a 181 ∧ gI b 182 = gI a 182 ∧ gI b 183 = gI a 183 ∧ gI b 184 = gI a 184 := ⟨h.ki 153 35 (by decide), h.fi 177 (by decide), h.fi 180 (by decide), h.fi 181 (by decide), h.fi 182 (by decide), h.fi 183 (by decide), h.fi 184 (by decide)⟩
set_option maxHeartbeats 8000000 in
theorem act_D {st : St} (hT : Top st) {b : BY} {n T f p M : Nat} (h : DM b n T f p M st) {fu : Nat} (hf : 9000 ≤ fu) (hM : M ≤ 4000) (hs : gI st 153 8 = nI 0) {k a : Nat} (hk : k < 60) (ha : a ≤ 300) (h35 : gI st 153 35 = nI a) : ∃ u, f_X12_act fu 153 (nI k) st = some u ∧ Fr Wx st u ∧ Top u ∧ DM b n T f p (M - 1) u ∧ ∃ a', a' ≤ 300 ∧ gI u 153 35 = nI a' := by
  obtain ⟨t, s, g5, g4, g6, g7, g8, g9, g10, g11, g12, g13, -, -, -, -, -, n4⟩ := h.see
  have s0 : s = 0 := by
    rw [hs] at g9
    have := (nI_eq (a := 0) (b := s) (by omega) (by omega)).mp g9
    omega
  have hpq := (g13 s0).1
  have pl4 : pl b n t ≤ 4000 := by omega
  -- the end, behind what was read
  have fin : ∀ (s' : St) (x3 x4 x5 : Int32), Fr Wx st s' → gI s' 153 35 = nI a → Top s' → DM b n T f p (M - 1) s' → f_X12_act fu 153 (nI k) st = b_X12_act_201 fu 153 (nI k) (nI (pl b n t)) x3 x4 x5 s' → ∃ u, f_X12_act fu 153 (nI k) st = some u ∧ Fr Wx st u ∧ Top u ∧ DM b n T f p (M - 1) u ∧ ∃ a', a' ≤ 300 ∧ gI u 153 35 = nI a' := fun s' x3 x4 x5 fr' q35 hT' d' e => by
    obtain ⟨u, e1, fr1, hT1, d1, r1⟩ := e201_D hT' d' fu hk ha q35 g12 hpq x3 x4 x5
    exact ⟨u, by rw [e]; exact e1, fr'.tt fr1, hT1, d1, r1⟩
  have k35 : ∀ s', Fr W5 st s' → gI s' 153 35 = nI a := fun s' fr => by rw [fr.ki 153 35 (by decide)]; exact h35
  obtain ⟨r0, a0, e0, l0, l0', fr0, hT0, d0⟩ := takeW_D hT h (fu := fu) (by omega) (w := 8) (by omega) (by omega)
  by_cases c0 : r0 = 1
  · subst c0
    rw [if_pos rfl] at d0
    obtain ⟨u, e, fru, hTu, du⟩ := channels_D hT0 d0 hf (by omega)
    refine fin u (nI 6) (nI 0) (nI 0) ((Wx_5 fr0).tt (Wx_c fru)) ?_ hTu du ?_
    · rw [fru.ki 153 35 (by decide)]; exact k35 _ fr0
    · clear fin h d0 du
      simp (disch := first | decide | omega) [isb, ck_tt, NP, NF, NC, NB, NS, GS, kdR, tpR hT, f_X12_act, g5, g7, e0, e]
  · have c0' : r0 = 0 := by omega
    subst c0'
    rw [if_neg (by decide)] at d0
    obtain ⟨r1, a1, e1, l1, l1', fr1, hT1, d1⟩ := takeW_D hT0 d0 (fu := fu) (by omega) (w := 9) (by omega) (by omega)
    have fr1' := fr0.tt fr1
    by_cases c1 : r1 = 1
    · subst c1
      rw [if_pos rfl] at d1
      obtain ⟨x, b1, b2, v, b3, q1, q2, q3, q4, q5, q6⟩ := nwn_D hT1 d1 (fu := fu) (by omega) (h1 := 7) (h2 := 99999) (w := 14) (by omega) (by omega) (by omega) (by omega)
      refine fin b3 (nI 1) (nI x) (nI v) (Wx_5 (fr1'.tt q4)) (k35 _ (fr1'.tt q4)) q5 q6 ?_
      clear fin h d0 d1 q6
      simp (disch := first | decide | omega) [isb, ck_tt, NP, NF, NC, NB, NS, GS, kdR, tpR hT, f_X12_act, g5, g7, e0, e1, q1, q2, q3]
    · have c1' : r1 = 0 := by omega
      subst c1'
      rw [if_neg (by decide)] at d1
      obtain ⟨r2, a2, e2, l2, l2', fr2, hT2, d2⟩ := takeW_D hT1 d1 (fu := fu) (by omega) (w := 10) (by omega) (by omega)
      have fr2' := fr1'.tt fr2
      by_cases c2 : r2 = 1
      · subst c2
        rw [if_pos rfl] at d2
        obtain ⟨x, b1, q1, q2, q3, q4, q5⟩ := num_D hT2 d2 fu (lo := 0) (hi := 7) (by omega) (by omega)
        refine fin b1 (nI 2) (nI x) (nI 0) (Wx_5 (fr2'.tt q3)) (k35 _ (fr2'.tt q3)) q4 (q5.mono (by omega)) ?_
        clear fin h d0 d1 d2 q5
        simp (disch := first | decide | omega) [isb, ck_tt, NP, NF, NC, NB, NS, GS, kdR, tpR hT, f_X12_act, g5, g7, e0, e1, e2, q1]
      · have c2' : r2 = 0 := by omega
        subst c2'
        rw [if_neg (by decide)] at d2
        obtain ⟨r3, a3, e3, l3, l3', fr3, hT3, d3⟩ := takeW_D hT2 d2 (fu := fu) (by omega) (w := 11) (by omega) (by omega)
        have fr3' := fr2'.tt fr3
        by_cases c3 : r3 = 1
        · subst c3
          rw [if_pos rfl] at d3
          obtain ⟨x, b1, q1, q2, q3, q4, q5⟩ := num_D hT3 d3 fu (lo := 0) (hi := 15) (by omega) (by omega)
          refine fin b1 (nI 3) (nI x) (nI 0) (Wx_5 (fr3'.tt q3)) (k35 _ (fr3'.tt q3)) q4 (q5.mono (by omega)) ?_
          clear fin h d0 d1 d2 d3 q5
          simp (disch := first | decide | omega) [isb, ck_tt, NP, NF, NC, NB, NS, GS, kdR, tpR hT, f_X12_act, g5, g7, e0, e1, e2, e3, q1]
        · have c3' : r3 = 0 := by omega
          subst c3'
          rw [if_neg (by decide)] at d3
          obtain ⟨r4, a4, e4, l4, l4', fr4, hT4, d4⟩ := takeW_D hT3 d3 (fu := fu) (by omega) (w := 12) (by omega) (by omega)
          have fr4' := fr3'.tt fr4
          by_cases c4 : r4 = 1
          · subst c4
            rw [if_pos rfl] at d4
            obtain ⟨x, b1, q1, q2, q3, q4, q5⟩ := num_D hT4 d4 fu (lo := 0) (hi := 3) (by omega) (by omega)
            obtain ⟨v, b2, p1, p2, p3, p4, p5⟩ := name_D q4 q5 fu
            refine fin b2 (nI 4) (nI x) (nI v) ((Wx_5 (fr4'.tt q3)).tt (Wx_6 p3)) ?_ p4 (p5.mono (by omega)) ?_
            · rw [p3.ki 153 35 (by decide)]; exact k35 _ (fr4'.tt q3)
            · clear fin h d0 d1 d2 d3 d4 q5 p5
              simp (disch := first | decide | omega) [isb, ck_tt, NP, NF, NC, NB, NS, GS, kdR, tpR hT, f_X12_act, g5, g7, e0, e1, e2, e3, e4, q1, p1]
          · have c4' : r4 = 0 := by omega
            subst c4'
            rw [if_neg (by decide)] at d4
            obtain ⟨r5, a5, e5, l5, l5', fr5, hT5, d5⟩ := takeW_D hT4 d4 (fu := fu) (by omega) (w := 13) (by omega) (by omega)
            have fr5' := fr4'.tt fr5
            by_cases c5 : r5 = 1
            · subst c5
              rw [if_pos rfl] at d5
              obtain ⟨x, b1, b2, v, b3, q1, q2, q3, q4, q5, q6⟩ := nwn_D hT5 d5 (fu := fu) (by omega) (h1 := 3) (h2 := 255) (w := 15) (by omega) (by omega) (by omega) (by omega)
              refine fin b3 (nI 5) (nI x) (nI v) (Wx_5 (fr5'.tt q4)) (k35 _ (fr5'.tt q4)) q5 q6 ?_
              clear fin h d0 d1 d2 d3 d4 d5 q6
              simp (disch := first | decide | omega) [isb, ck_tt, NP, NF, NC, NB, NS, GS, kdR, tpR hT, f_X12_act, g5, g7, e0, e1, e2, e3, e4, e5, q1, q2, q3]
            · have c5' : r5 = 0 := by omega
              subst c5'
              rw [if_neg (by decide)] at d5
              obtain ⟨u, q1, q2, q3, q4⟩ := wrong_D hT5 d5 fu
              refine ⟨u, ?_, Wx_5 (fr5'.tt q2), q3, q4.mono (by omega), a, ha, k35 _ (fr5'.tt q2)⟩
              clear fin h d0 d1 d2 d3 d4 d5 q4
              simp (disch := first | decide | omega) [isb, ck_tt, NP, NF, NC, NB, NS, GS, kdR, tpR hT, f_X12_act, g5, g7, e0, e1, e2, e3, e4, e5, q1]
