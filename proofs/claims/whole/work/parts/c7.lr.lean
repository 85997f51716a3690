/-! PURE: the text of a list, in the reference: names, channels -/
def W6 : List PL := [(153, some 5), (153, some 6), (153, some 7), (153, some 8), (153, some 38)]
theorem W6_5 {a b : St} (h : Fr W5 a b) : Fr W6 a b := h.sub (by simp [W5, W6])
theorem W6_8 (a : St) (v : Int32) : Fr W6 a (sI a 153 38 v) := (Fr.i a 153 38 v).sub (by simp [W6])
theorem rf_38 (a : St) (v : Int32) : Same S_rf a (sI a 153 38 v) := (Fr.i a 153 38 v).same (by decide)
theorem nm29 {s : St} (hT : Top s) (fu : Nat) {x y t : Nat} (hx : x ≤ 100000) (hy : y ≤ 100000) (h5 : gI s 153 5 = nI t) (ht : t ≤ 4000) : ∃ g, g ≤ 1 ∧ b_X12_name_29 fu 153 (nI x) (nI y) s = some (nI (100 * x + y), sI s 153 38 (nI g)) ∧ (1 ≤ x → x ≤ 999 → y ≤ 99 → (y ≠ 0 ∨ t < 2 ∨ gI s 155 (t - 2) ≠ nI 46) → g = 1) ∧ ((x < 1 ∨ 999 < x ∨ 99 < y ∨ (y = 0 ∧ 2 ≤ t ∧ gI s 155 (t - 2) = nI 46)) → g = 0) := by
  by_cases x1 : x < 1
  · refine ⟨0, by omega, ?_, fun h => by omega, fun _ => rfl⟩
    simp (disch := first | decide | omega) [isb, ck_tt, NP, NF, NC, NB, NS, GS, kdR, tpR hT, b_X12_name_29, b_X12_name_68, b_X12_name_69]
  · by_cases x9 : 999 < x
    · refine ⟨0, by omega, ?_, fun _ h => by omega, fun _ => rfl⟩
      simp (disch := first | decide | omega) [isb, ck_tt, NP, NF, NC, NB, NS, GS, kdR, tpR hT, b_X12_name_29, b_X12_name_68, b_X12_name_69]
    · by_cases y9 : 99 < y
      · refine ⟨0, by omega, ?_, fun _ _ h => by omega, fun _ => rfl⟩
        simp (disch := first | decide | omega) [isb, ck_tt, NP, NF, NC, NB, NS, GS, kdR, tpR hT, b_X12_name_29, b_X12_name_68, b_X12_name_69]
      · by_cases y0 : y = 0
        · subst y0
          by_cases t2 : t < 2
          · have wp : f_X12_wasPoint fu 153 s = some (nI 0, s) := by
              simp (disch := first | decide | omega) [isb, ck_tt, NP, NF, NC, NB, NS, GS, kdR, tpR hT, f_X12_wasPoint, b_X12_wasPoint_28, b_X12_wasPoint_29, h5]
            refine ⟨1, by omega, ?_, fun _ _ _ _ => rfl, fun h => by omega⟩
            simp (disch := first | decide | omega) [isb, ck_tt, NP, NF, NC, NB, NS, GS, kdR, tpR hT, b_X12_name_29, b_X12_name_64, b_X12_name_69, wp]
          · by_cases e : gI s 155 (t - 2) = nI 46
            · have wp : f_X12_wasPoint fu 153 s = some (nI 1, s) := by
                simp (disch := first | decide | omega) [isb, ck_tt, NP, NF, NC, NB, NS, GS, kdR, tpR hT, f_X12_wasPoint, b_X12_wasPoint_28, b_X12_wasPoint_29, h5, e]
              refine ⟨0, by omega, ?_, fun _ _ _ h => ?_, fun _ => rfl⟩
              · simp (disch := first | decide | omega) [isb, ck_tt, NP, NF, NC, NB, NS, GS, kdR, tpR hT, b_X12_name_29, b_X12_name_68, b_X12_name_69, wp]
              · rcases h with h | h | h
                · exact absurd rfl h
                · omega
                · exact absurd e h
            · have wp : f_X12_wasPoint fu 153 s = some (nI 0, s) := by
                simp (disch := first | decide | omega) [isb, ck_tt, NP, NF, NC, NB, NS, GS, kdR, tpR hT, f_X12_wasPoint, b_X12_wasPoint_28, b_X12_wasPoint_29, h5, e]
              refine ⟨1, by omega, ?_, fun _ _ _ _ => rfl, fun h => ?_⟩
              · simp (disch := first | decide | omega) [isb, ck_tt, NP, NF, NC, NB, NS, GS, kdR, tpR hT, b_X12_name_29, b_X12_name_64, b_X12_name_69, wp]
              · rcases h with h | h | h | h
                · omega
                · omega
                · omega
                · exact absurd h.2.2 e
        · refine ⟨1, by omega, ?_, fun _ _ _ _ => rfl, fun h => by omega⟩
          simp (disch := first | decide | omega) [isb, ck_tt, NP, NF, NC, NB, NS, GS, kdR, tpR hT, b_X12_name_29, b_X12_name_64, b_X12_name_69]
theorem name_D {st : St} (hT : Top st) {b : BY} {n T f p M : Nat} (h : DM b n T f p M st) (fu : Nat) : ∃ v u, f_X12_name fu 153 st = some (nI v, u) ∧ v ≤ 20000000 ∧ Fr W6 st u ∧ Top u ∧ DM b n T f p (M - 1) u := by
  obtain ⟨x, s1, e1, l1, fr1, hT1, h1⟩ := num_D hT h fu (lo := 1) (hi := 999) (by omega) (by omega)
  obtain ⟨r, s2, e2, l2, l2', fr2, hT2, h2⟩ := takeS_D hT1 h1 fu (c := 46) (by omega) (by omega)
  by_cases c : r = 1
  · subst c
    obtain ⟨y, s3, e3, l3, fr3, hT3, h3⟩ := num_D hT2 h2 fu (lo := 1) (hi := 99) (by omega) (by omega)
    obtain ⟨t, s, g5, g4, -⟩ := h3.see
    obtain ⟨g, g1, e4, -, -⟩ := nm29 hT3 fu l1 l3 g5 g4
    refine ⟨100 * x + y, sI s3 153 38 (nI g), ?_, by omega, (W6_5 ((fr1.tt fr2).tt fr3)).tt (W6_8 _ _), hT3.r rfl, (h3.mono ?_).same (rf_38 _ _)⟩
    · rw [← e4]
      clear h h1 h2 h3 e4
      simp (disch := first | decide | omega) [isb, ck_tt, NP, NF, NC, NB, NS, GS, kdR, tpR hT, f_X12_name, e1, e2, e3]
    · rw [if_pos rfl]; omega
  · have r0 : r = 0 := by omega
    subst r0
    obtain ⟨t, s, g5, g4, -⟩ := h2.see
    obtain ⟨g, g1, e4, -, -⟩ := nm29 hT2 fu (y := 0) l1 (by omega) g5 g4
    refine ⟨100 * x + 0, sI s2 153 38 (nI g), ?_, by omega, (W6_5 (fr1.tt fr2)).tt (W6_8 _ _), hT2.r rfl, (h2.mono ?_).same (rf_38 _ _)⟩
    · rw [← e4]
      clear h h1 h2 e4
      simp (disch := first | decide | omega) [isb, ck_tt, NP, NF, NC, NB, NS, GS, kdR, tpR hT, f_X12_name, e1, e2]
    · rw [if_neg (by omega)]; exact Nat.le_refl _
theorem takeS_st {st : St} (hT : Top st) {b : BY} {n T f p M : Nat} (h : DM b n T f p M st) (h8 : gI st 153 8 = nI 1) (fu : Nat) {c : Nat} (hc : 3 < c) (hc2 : c < 200) : ∃ u, f_X12_takeSign fu 153 (nI c) st = some (nI 0, u) ∧ Fr W5 st u ∧ Top u ∧ DM b n T f p M u ∧ gI u 153 8 = nI 1 := by
  obtain ⟨t, s, h1, h2⟩ := h
  have s8 := h1.1.2.2.2.2.2.2.2.1
  have sl := h1.1.2.2.2.2.2.2.2.2
  have s1 : s = 1 := by
    rw [h8] at s8
    have := (nI_eq (a := 1) (b := s) (by omega) (by omega)).mp s8
    omega
  subst s1
  obtain ⟨-, d⟩ := takeS_r hT h1.1 fu hc hc2
  obtain ⟨u, u1, u2, u3, u4⟩ := d (fun x => by omega)
  exact ⟨u, u1, u2, u3, ⟨t, 1, ⟨u4, h1.2⟩, h2⟩, u4.2.2.2.2.2.2.2.1⟩
/-- number, and what it was when it is a fault -/
theorem num_P {st : St} (hT : Top st) {b : BY} {n T t : Nat} (h : RS b n T t st) (fu : Nat) {lo hi : Nat} (hl : lo ≤ 100000) (hh : hi ≤ 100000) : ∃ v u, f_X12_number fu 153 (nI lo) (nI hi) st = some (nI v, u) ∧ v ≤ 100000 ∧ Fr W5 st u ∧ Top u ∧ RO b n T (T - t - 1) (pNum b n lo hi t) (fun a => v = a) u ∧ (so b n t ≠ 2 → gI u 153 8 = nI 1) ∧ (so b n t = 2 → v = nvt b n t ∧ gI u 153 5 = nI (t + 1)) := by
  obtain ⟨N1, N2, N3⟩ := num_s hT h fu hl hh
  have vb := nv_le b (pl b n t) (af b n (t + 1) - pl b n t)
  unfold pNum
  by_cases h1 : so b n t = 2
  · rw [if_pos h1]
    by_cases h2 : lo ≤ nvt b n t ∧ nvt b n t ≤ hi
    · rw [if_pos h2]
      obtain ⟨u, u1, a1, a2, a3⟩ := N1 h1 h2.1 h2.2
      exact ⟨_, u, u1, vb, a1, a2, ⟨a3, rfl⟩, fun e => absurd h1 e, fun _ => ⟨rfl, a3.2.1⟩⟩
    · rw [if_neg h2]
      obtain ⟨u, u1, a1, a2, a3⟩ := N2 h1 h2
      exact ⟨_, u, u1, vb, a1, a2, ⟨_, _, a3, Or.inr (by omega)⟩, fun e => absurd h1 e, fun _ => ⟨rfl, a3.1.2.1⟩⟩
  · rw [if_neg h1]
    obtain ⟨u, u1, a1, a2, a3⟩ := N3 h1
    exact ⟨_, u, u1, hl, a1, a2, ⟨_, _, a3, Or.inl rfl⟩, fun _ => a3.1.2.2.2.2.2.2.2.1, fun e => absurd e h1⟩
theorem pNum_o {b : BY} {n lo hi t : Nat} {e : Nat × Nat} (h : pNum b n lo hi t = .inr e) (s2 : so b n t = 2) : ¬ (lo ≤ nvt b n t ∧ nvt b n t ≤ hi) := by
  intro c
  unfold pNum at h
  rw [if_pos s2, if_pos c] at h
  cases h
set_option maxHeartbeats 8000000 in
theorem name_p {st : St} (hT : Top st) {b : BY} {n T t : Nat} (h : RS b n T t st) (fu : Nat) : ∃ v u, f_X12_name fu 153 st = some (nI v, u) ∧ v ≤ 20000000 ∧ Fr W6 st u ∧ Top u ∧ RO b n T (T - t - 1) (pName b n t) (fun a => v = a ∧ ((t = 0 ∨ so b n (t - 1) ≠ 46) → gI u 153 38 = nI 1)) u ∧ (∀ e, pName b n t = .inr e → gI u 153 8 = nI 1 ∨ gI u 153 38 = nI 0) := by
  obtain ⟨x, s1, e1, l1, fr1, hT1, co1, n1, n2⟩ := num_P hT h fu (lo := 1) (hi := 999) (by omega) (by omega)
  have k38 : ∀ (s : St) (g : Nat), gI (sI s 153 38 (nI g)) 153 38 = nI g := fun s g => by rw [gI_sI, if_pos ⟨rfl, rfl⟩]
  have k8 : ∀ (s : St) (g : Nat), gI (sI s 153 38 (nI g)) 153 8 = gI s 153 8 := fun s g => by rw [gI_sI, if_neg (by decide)]
  unfold pName
  cases hp : pNum b n 1 999 t with
  | inr e' =>
    rw [hp] at co1
    have h1 : DM b n T e'.1 e'.2 (T - t - 1) s1 := co1
    by_cases s2 : so b n t = 2
    · have ov := pNum_o hp s2
      obtain ⟨xv, -⟩ := n2 s2
      obtain ⟨r, s2', e2, l2, l2', fr2, hT2, h2⟩ := takeS_D hT1 h1 fu (c := 46) (by omega) (by omega)
      by_cases c : r = 1
      · subst c
        obtain ⟨y, s3, e3, l3, fr3, hT3, h3⟩ := num_D hT2 h2 fu (lo := 1) (hi := 99) (by omega) (by omega)
        obtain ⟨t', s, g5, g4, -⟩ := h3.see
        obtain ⟨g, g1, e4, -, e6⟩ := nm29 hT3 fu l1 l3 g5 g4
        refine ⟨100 * x + y, sI s3 153 38 (nI g), ?_, by omega, (W6_5 ((fr1.tt fr2).tt fr3)).tt (W6_8 _ _), hT3.r rfl, (h3.mono ?_).same (rf_38 _ _), fun _ _ => Or.inr ?_⟩
        · rw [← e4]
          clear h h1 h2 h3 e4 e6 co1 k38 k8
          simp (disch := first | decide | omega) [isb, ck_tt, NP, NF, NC, NB, NS, GS, kdR, tpR hT, f_X12_name, e1, e2, e3]
        · rw [if_pos rfl]; omega
        · rw [k38, e6 (by omega)]
      · have r0 : r = 0 := by omega
        subst r0
        obtain ⟨t', s, g5, g4, -⟩ := h2.see
        obtain ⟨g, g1, e4, -, e6⟩ := nm29 hT2 fu (y := 0) l1 (by omega) g5 g4
        refine ⟨100 * x + 0, sI s2' 153 38 (nI g), ?_, by omega, (W6_5 (fr1.tt fr2)).tt (W6_8 _ _), hT2.r rfl, (h2.mono ?_).same (rf_38 _ _), fun _ _ => Or.inr ?_⟩
        · rw [← e4]
          clear h h1 h2 e4 e6 co1 k38 k8
          simp (disch := first | decide | omega) [isb, ck_tt, NP, NF, NC, NB, NS, GS, kdR, tpR hT, f_X12_name, e1, e2]
        · rw [if_neg (by omega)]; exact Nat.le_refl _
        · rw [k38, e6 (by omega)]
    · obtain ⟨s2', e2, fr2, hT2, h2, i8⟩ := takeS_st hT1 h1 (n1 s2) fu (c := 46) (by omega) (by omega)
      obtain ⟨t', s, g5, g4, -⟩ := h2.see
      obtain ⟨g, g1, e4, -, e6⟩ := nm29 hT2 fu (y := 0) l1 (by omega) g5 g4
      refine ⟨100 * x + 0, sI s2' 153 38 (nI g), ?_, by omega, (W6_5 (fr1.tt fr2)).tt (W6_8 _ _), hT2.r rfl, h2.same (rf_38 _ _), fun _ _ => Or.inl ?_⟩
      · rw [← e4]
        clear h h1 h2 e4 e6 co1 k38 k8
        simp (disch := first | decide | omega) [isb, ck_tt, NP, NF, NC, NB, NS, GS, kdR, tpR hT, f_X12_name, e1, e2]
      · rw [k8]; exact i8
  | inl y =>
    obtain ⟨y, t1⟩ := y
    rw [hp] at co1
    obtain ⟨h1, hv⟩ := co1
    have hv : x = y := hv
    subst hv
    have h1 : RS b n T t1 s1 := h1
    obtain ⟨q1, q2, q3, q4, q5⟩ := pNum_i hp
    subst q5
    obtain ⟨s2, e2, fr2, hT2, h2⟩ := takeS_p hT1 h1 fu (c := 46) (by omega) (by omega)
    rw [pb_i]
    by_cases c : so b n (t + 1) = 46
    · rw [if_pos c] at e2 h2
      rw [if_pos c]
      obtain ⟨z, s3, e3, l3, fr3, hT3, co3, m1, m2⟩ := num_P hT2 h2 fu (lo := 1) (hi := 99) (by omega) (by omega)
      cases hp2 : pNum b n 1 99 (t + 1 + 1) with
      | inr e' =>
        rw [hp2] at co3
        have h3 : DM b n T e'.1 e'.2 (T - (t + 1 + 1) - 1) s3 := co3
        obtain ⟨t', s, g5, g4, -⟩ := h3.see
        obtain ⟨g, g1, e4, -, e6⟩ := nm29 hT3 fu l1 l3 g5 g4
        refine ⟨100 * x + z, sI s3 153 38 (nI g), ?_, by omega, (W6_5 ((fr1.tt fr2).tt fr3)).tt (W6_8 _ _), hT3.r rfl, (h3.mono (by omega)).same (rf_38 _ _), fun _ _ => ?_⟩
        · rw [← e4]
          clear h h1 h2 h3 e4 e6 co3 k38 k8 m1 m2
          simp (disch := first | decide | omega) [isb, ck_tt, NP, NF, NC, NB, NS, GS, kdR, tpR hT, f_X12_name, e1, e2, e3]
        · by_cases s22 : so b n (t + 1 + 1) = 2
          · right
            have ov := pNum_o hp2 s22
            obtain ⟨zv, z5⟩ := m2 s22
            rw [k38, e6 ?_]
            by_cases z0 : z = 0
            · right; right; right
              rw [g5] at z5
              have nt := h2.2.2.1
              have n4 := h.1.2.2.2.2.2
              have tn := h.1.2.2.2.2.1
              have te := (nI_eq (a := t') (b := t + 1 + 1 + 1) (by omega) (by omega)).mp z5
              refine ⟨z0, by omega, ?_⟩
              rw [te, show t + 1 + 1 + 1 - 2 = t + 1 by omega, fr3.fi 155 (by decide), (h2.1.sot (t := t + 1) (by omega)).1, c]
            · omega
          · left
            rw [k8]; exact m1 s22
      | inl w =>
        obtain ⟨w, t2⟩ := w
        rw [hp2] at co3
        obtain ⟨h3, hw⟩ := co3
        have hw : z = w := hw
        subst hw
        have h3 : RS b n T t2 s3 := h3
        obtain ⟨-, -, p3, p4, -⟩ := pNum_i hp2
        obtain ⟨g5, g4, -⟩ := h3.rd
        obtain ⟨g, g1, e4, e5, -⟩ := nm29 hT3 fu l1 l3 g5 g4
        refine ⟨100 * x + z, sI s3 153 38 (nI g), ?_, by omega, (W6_5 ((fr1.tt fr2).tt fr3)).tt (W6_8 _ _), hT3.r rfl, ⟨RfA.same h3 (rf_38 _ _), rfl, fun _ => ?_⟩, fun e he => by cases he⟩
        · rw [← e4]
          clear h h1 h2 h3 e4 e5 k38 k8 m1 m2
          simp (disch := first | decide | omega) [isb, ck_tt, NP, NF, NC, NB, NS, GS, kdR, tpR hT, f_X12_name, e1, e2, e3]
        · rw [k38, e5 q3 q4 p4 (Or.inl (by omega))]
    · rw [if_neg c] at e2 h2
      rw [if_neg c]
      obtain ⟨g5, g4, -⟩ := h2.rd
      obtain ⟨g, g1, e4, e5, -⟩ := nm29 hT2 fu (y := 0) l1 (by omega) g5 g4
      refine ⟨100 * x + 0, sI s2 153 38 (nI g), ?_, by omega, (W6_5 (fr1.tt fr2)).tt (W6_8 _ _), hT2.r rfl, ⟨RfA.same h2 (rf_38 _ _), rfl, fun hz => ?_⟩, fun e he => by cases he⟩
      · rw [← e4]
        clear h h1 h2 e4 e5 k38 k8
        simp (disch := first | decide | omega) [isb, ck_tt, NP, NF, NC, NB, NS, GS, kdR, tpR hT, f_X12_name, e1, e2]
      · rw [k38, e5 q3 q4 (by omega) (Or.inr ?_)]
        by_cases t0 : t + 1 < 2
        · exact Or.inl t0
        · right
          rw [show t + 1 - 2 = t - 1 by omega, (h2.1.sot (t := t - 1) (by have := h2.2.2.1; omega)).1]
          intro e
          have sb := so_b b n (t - 1)
          have := (nI_eq (a := so b n (t - 1)) (b := 46) (by omega) (by omega)).mp e
          rcases hz with hz | hz
          · omega
          · exact hz this
/-! channels: meant, 185; named, 184; row, 183 -/
def Wc : List PL := [(153, some 5), (153, some 6), (153, some 7), (153, some 8), (183, none), (184, none), (185, none)]
def Wm : List PL := [(153, some 5), (153, some 6), (153, some 7), (153, some 8), (185, none)]
theorem Wm_5 {a b : St} (h : Fr W5 a b) : Fr Wm a b := h.sub (by simp [W5, Wm])
theorem Wm_185 {a b : St} (h : Fr [(185, none)] a b) : Fr Wm a b := h.sub (by simp [Wm])
theorem Wc_m {a b : St} (h : Fr Wm a b) : Fr Wc a b := h.sub (by simp [Wm, Wc])
theorem Wc_5 {a b : St} (h : Fr W5 a b) : Fr Wc a b := h.sub (by simp [W5, Wc])
theorem Wc_185 {a b : St} (h : Fr [(185, none)] a b) : Fr Wc a b := h.sub (by simp [Wc])
theorem rf_185 {a b : St} (h : Fr [(185, none)] a b) : Same S_rf a b := h.same (by decide)
set_option maxRecDepth 100000 in
theorem top_185 {a b : St} (hT : Top a) (h : Fr [(185, none)] a b) : Top b := hT.fr (h.same (by decide))
set_option maxRecDepth 100000 in
theorem top_34 {a b : St} (hT : Top a) (h : Fr [(183, none), (184, none)] a b) : Top b := hT.fr (h.same (by decide))
def MT (m : Nat) (st : St) : Prop := ∀ c, 1 ≤ c → c ≤ 64 → gI st 185 c = nI (m.testBit (c - 1)).toNat
theorem bts_t {x y c : Nat} (h1 : 1 ≤ x) (h2 : x ≤ y) (h3 : y ≤ 64) (c1 : 1 ≤ c) (c2 : c ≤ 64) : (bts x y).testBit (c - 1) = decide (x ≤ c ∧ c ≤ y) := by
  unfold bts
  rw [Nat.testBit_mul_two_pow, Nat.testBit_two_pow_sub_one, ← Bool.decide_and]
  congr 1
  apply propext
  omega
theorem ch94 {fu : Nat} (K : Nat → Int32 → St → Option St) {y : Nat} (hy : y ≤ 100000) : ∀ (F x : Nat) (s : St), Top s → x ≤ 100000 → 66 < F + x → 1 ≤ F → ∃ u, b_X12_channels_94 fu K F 153 (nI y) (nI x) s = b_X12_channels_127 fu K 153 u ∧ Fr [(185, none)] s u ∧ (1 ≤ x → y ≤ 64 → ∀ c, gI u 185 c = if x ≤ c ∧ c ≤ y then nI 1 else gI s 185 c) := by
  intro F
  induction F with
  | zero => intro x s hT hx hF h1; omega
  | succ F ih =>
    intro x s hT hx hF h1
    have un : b_X12_channels_94 fu K (F + 1) 153 (nI y) (nI x) s = b_X12_channels_94_b fu K (b_X12_channels_94 fu K F) 153 (nI y) (nI x) s := rfl
    rw [un]
    by_cases c1 : y < x
    · refine ⟨s, ?_, Fr.rf, fun _ _ c => by rw [if_neg (by omega)]⟩
      clear ih un
      simp (disch := first | decide | omega) [isb, ck_tt, NP, NF, NC, NB, NS, GS, kdR, tpR hT, b_X12_channels_94_b]
    · by_cases c2 : x < 1
      · refine ⟨s, ?_, Fr.rf, fun h => by omega⟩
        clear ih un
        simp (disch := first | decide | omega) [isb, ck_tt, NP, NF, NC, NB, NS, GS, kdR, tpR hT, b_X12_channels_94_b]
      · by_cases c3 : 64 < x
        · refine ⟨s, ?_, Fr.rf, fun _ _ => by omega⟩
          clear ih un
          simp (disch := first | decide | omega) [isb, ck_tt, NP, NF, NC, NB, NS, GS, kdR, tpR hT, b_X12_channels_94_b]
        · obtain ⟨u, e, fr, v⟩ := ih (x + 1) (sI s 185 x (nI 1)) (hT.r rfl) (by omega) (by omega) (by omega)
          refine ⟨u, ?_, (Fr.ia s 185 x (nI 1)).tt fr, fun _ h64 c => ?_⟩
          · rw [← e]
            clear ih un e fr v
            simp (disch := first | decide | omega) [isb, ck_tt, NP, NF, NC, NB, NS, GS, kdR, tpR hT, b_X12_channels_94_b]
          · rw [v (by omega) h64 c]
            by_cases d : x + 1 ≤ c ∧ c ≤ y
            · rw [if_pos d, if_pos (by omega)]
            · rw [if_neg d, gI_sI]
              by_cases e : c = x
              · subst e
                rw [if_pos ⟨rfl, rfl⟩, if_pos (by omega)]
              · rw [if_neg (by omega), if_neg (by omega)]
theorem ch23_0 {s : St} (fu F : Nat) : b_X12_channels_23 fu (F + 1) 153 (nI 0) s = b_X12_channels_137 fu 153 s := rfl
theorem ch127 {s u : St} (fu : Nat) (K : Nat → Int32 → St → Option St) {r : Nat} (e : f_X12_takeSign fu 153 (nI 44) s = some (nI r, u)) : b_X12_channels_127 fu K 153 s = K 153 (nI r) u := by
  unfold b_X12_channels_127
  rw [ck_t (show (kd 153).1 = 12 from rfl), show f_X12_takeSign fu 153 44 s = some (nI r, u) from e, ca_s]
set_option maxHeartbeats 8000000 in
/-- the rest of a turn behind its number, when the text is dead -/
theorem ch_tail {b : BY} {n T f p : Nat} {fu : Nat} (hf : 100 ≤ fu) {F : Nat} (IH : ∀ (M r : Nat) (st : St), r ≤ 1 → M + 1 < F → Top st → DM b n T f p M st → ∃ u, b_X12_channels_23 fu F 153 (nI r) st = b_X12_channels_137 fu 153 u ∧ Fr Wm st u ∧ Top u ∧ DM b n T f p M u) {M x : Nat} {st a1 : St} (hF : M < F) (hs : gI st 153 8 = nI 0) (l1 : x ≤ 100000) (e1 : f_X12_number fu 153 (nI 1) (nI 64) st = some (nI x, a1)) (fr1 : Fr W5 st a1) (hT1 : Top a1) (h1 : DM b n T f p M a1) : ∃ u, b_X12_channels_23_b fu (b_X12_channels_23 fu F) 153 (nI 1) st = b_X12_channels_137 fu 153 u ∧ Fr Wm st u ∧ Top u ∧ DM b n T f p M u := by
  obtain ⟨r2, a2, e2, l2, l2', fr2, hT2, h2⟩ := takeS_D hT1 h1 fu (c := 45) (by omega) (by omega)
  have h2' : DM b n T f p M a2 := h2.mono (by by_cases c : r2 = 1 <;> simp [c])
  have rest : ∀ y a3, y ≤ 100000 → Fr W5 st a3 → Top a3 → DM b n T f p M a3 → b_X12_channels_23_b fu (b_X12_channels_23 fu F) 153 (nI 1) st = b_X12_channels_91 fu (b_X12_channels_23 fu F) 153 (nI x) (nI y) a3 → ∃ u, b_X12_channels_23_b fu (b_X12_channels_23 fu F) 153 (nI 1) st = b_X12_channels_137 fu 153 u ∧ Fr Wm st u ∧ Top u ∧ DM b n T f p M u := fun y a3 hy fr3 hT3 h3 e => by
    obtain ⟨a4, e4, fr4, -⟩ := ch94 (fu := fu) (b_X12_channels_23 fu F) hy fu x a3 hT3 l1 (by omega) (by omega)
    have hT4 := top_185 hT3 fr4
    have h4 := h3.same (rf_185 fr4)
    obtain ⟨r5, a5, e5, l5, l5', fr5, hT5, h5⟩ := takeS_D hT4 h4 fu (c := 44) (by omega) (by omega)
    have fr5' := (Wm_5 fr3).tt ((Wm_185 fr4).tt (Wm_5 fr5))
    have e6 : b_X12_channels_91 fu (b_X12_channels_23 fu F) 153 (nI x) (nI y) a3 = b_X12_channels_23 fu F 153 (nI r5) a5 := by
      unfold b_X12_channels_91
      rw [e4, ch127 fu _ e5]
    rw [e, e6]
    by_cases c : r5 = 1
    · rw [if_pos c] at h5
      have := l5' c
      obtain ⟨u, x1, x2, x3, x4⟩ := IH (M - 1) r5 a5 l5 (by omega) hT5 h5
      exact ⟨u, x1, fr5'.tt x2, x3, x4.mono (by omega)⟩
    · rw [if_neg c] at h5
      have r50 : r5 = 0 := by omega
      subst r50
      obtain ⟨G, rfl⟩ : ∃ G, F = G + 1 := ⟨F - 1, by omega⟩
      exact ⟨a5, ch23_0 fu G, fr5', hT5, h5⟩
  by_cases c : r2 = 1
  · subst c
    obtain ⟨t2, s2, k5, k4, k6, k7, k8, k9, k10, k11, k12, k13, -⟩ := h2'.see
    have pn := (show pl b n t2 ≤ 4000 by obtain ⟨_, _, h, _⟩ := h2'; have := h.1.1.2.2.2.2.2; omega)
    obtain ⟨y, a3, e3, l3, fr3, hT3, h3⟩ := num_D hT2 h2' fu (lo := 1) (hi := 64) (by omega) (by omega)
    have h3' : DM b n T f p M a3 := h3.mono (by omega)
    obtain ⟨t3, s3, q5, q4, q6, q7, q8, q9, q10, q11, q12, q13, -⟩ := h3'.see
    refine rest y a3 l3 ((fr1.tt fr2).tt fr3) hT3 h3' ?_
    by_cases s31 : s3 = 1
    · subst s31
      have hT := hT2
      clear IH h1 h2 h2' h3 h3' rest
      simp (disch := first | decide | omega) [isb, ck_tt, NP, NF, NC, NB, NS, GS, kdR, tpR hT, b_X12_channels_23_b, hs, e1, e2, k5, k7, e3, q9]
    · have s30 : s3 = 0 := by omega
      subst s30
      by_cases c : x ≤ y
      · have hT := hT2
        clear IH h1 h2 h2' h3 h3' rest
        simp (disch := first | decide | omega) [isb, ck_tt, NP, NF, NC, NB, NS, GS, kdR, tpR hT, b_X12_channels_23_b, hs, e1, e2, k5, k7, e3, q9]
      · by_cases pq : p < pl b n t2
        · have tl := tell_D hT3 h3' fu (k := 2) (q := pl b n t2) (by omega) (by omega) k12 (Or.inl pq)
          have hT := hT2
          clear IH h1 h2 h2' h3 h3' rest
          simp (disch := first | decide | omega) [isb, ck_tt, NP, NF, NC, NB, NS, GS, kdR, tpR hT, b_X12_channels_23_b, hs, e1, e2, k5, k7, e3, q9, tl]
        · exfalso
          have s21 : s2 = 1 := by
            apply Classical.byContradiction
            intro hh
            have := (k13 (by omega)).1
            omega
          subst s21
          have st3 : gI a3 153 8 = nI 1 := by
            have nn : f_X12_number fu 153 (nI 1) (nI 64) a2 = some (nI 1, a2) := by
              have hT := hT2
              have wr : f_X12_wrong fu 153 a2 = some a2 := by
                clear IH h1 h2 h2' h3 h3' rest
                simp (disch := first | decide | omega) [isb, ck_tt, NP, NF, NC, NB, NS, GS, kdR, tpR hT, f_X12_wrong, b_X12_wrong_26, k9]
              clear IH h1 h2 h2' h3 h3' rest
              simp (disch := first | decide | omega) [isb, ck_tt, NP, NF, NC, NB, NS, GS, kdR, tpR hT, f_X12_number, b_X12_number_20, k9, wr]
            rw [nn] at e3
            injection e3 with e3
            injection e3 with _ e3
            rw [← e3]; exact k9
          rw [st3] at q9
          have := (nI_eq (a := 1) (b := 0) (by omega) (by omega)).mp q9
          omega
  · have r20 : r2 = 0 := by omega
    subst r20
    refine rest x a2 l1 (fr1.tt fr2) hT2 h2' ?_
    have hT := hT2
    clear IH h1 h2 h2' rest
    simp (disch := first | decide | omega) [isb, ck_tt, NP, NF, NC, NB, NS, GS, kdR, tpR hT, b_X12_channels_23_b, hs, e1, e2]
theorem ch23_D {b : BY} {n T f p : Nat} {fu : Nat} (hf : 100 ≤ fu) : ∀ (F M r : Nat) (st : St), r ≤ 1 → M + 1 < F → Top st → DM b n T f p M st → ∃ u, b_X12_channels_23 fu F 153 (nI r) st = b_X12_channels_137 fu 153 u ∧ Fr Wm st u ∧ Top u ∧ DM b n T f p M u := by
  intro F
  induction F with
  | zero => intro M r st hr hF; omega
  | succ F ih =>
    intro M r st hr hF hT h
    by_cases r0 : r = 0
    · subst r0
      exact ⟨st, ch23_0 fu F, Fr.rf, hT, h⟩
    · have r1 : r = 1 := by omega
      subst r1
      have un : b_X12_channels_23 fu (F + 1) 153 (nI 1) st = b_X12_channels_23_b fu (b_X12_channels_23 fu F) 153 (nI 1) st := rfl
      rw [un]
      obtain ⟨t, s, g5, g4, g6, g7, g8, g9, g10, g11, g12, g13, -⟩ := h.see
      by_cases s1 : s = 1
      · subst s1
        refine ⟨st, ?_, Fr.rf, hT, h⟩
        clear ih h un
        simp (disch := first | decide | omega) [isb, ck_tt, NP, NF, NC, NB, NS, GS, kdR, tpR hT, b_X12_channels_23_b, g9]
      · have s0 : s = 0 := by omega
        subst s0
        obtain ⟨x, a1, e1, l1, fr1, hT1, h1⟩ := num_D hT h fu (lo := 1) (hi := 64) (by omega) (by omega)
        obtain ⟨u, u1, u2, u3, u4⟩ := ch_tail hf ih (M := M - 1) (by omega) g9 l1 e1 fr1 hT1 h1
        exact ⟨u, u1, u2, u3, u4.mono (by omega)⟩
