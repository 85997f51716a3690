/-! PURE: all steps keep what holds; but for empty -/
theorem section_3 {st : St} (hT : Top st) (hP : P_hall st) (fu : Nat) (s p : Int32) : Two (f_X11_section fu 1 s p) (f_X12_section fu 153 s p) [(116, none), (214, none)] P_hall st := by
  obtain ⟨y, u, w, t1, t2, t3, t4⟩ := section_2 hT hP fu s p
  refine ⟨y, u, w, t1, t2, ?_, t4⟩
  rw [section_c hT fu s p] at t1
  by_cases h : 0 ≤ s ∧ s ≤ 7 ∧ 0 ≤ p ∧ p ≤ 99999
  · rw [if_pos h] at t1
    obtain ⟨-, rfl⟩ := Prod.mk.inj (Option.some.inj t1)
    rw [section_r (st := sI st 116 (ix s) p) (hT.r rfl) fu s p, if_pos h] at t2
    obtain ⟨-, rfl⟩ := Prod.mk.inj (Option.some.inj t2)
    exact (Fr.ia st 116 _ _).tr (Fr.ia _ 214 _ _)
  · rw [if_neg h] at t1
    obtain ⟨-, rfl⟩ := Prod.mk.inj (Option.some.inj t1)
    rw [section_r hT fu s p, if_neg h] at t2
    obtain ⟨-, rfl⟩ := Prod.mk.inj (Option.some.inj t2)
    exact Fr.rf
theorem line_3 {st : St} (hT : Top st) (hP : P_hall st) (fu : Nat) (d v : Int32) (hv : v = 0 ∨ v = 1) : Two (f_X11_line fu 1 d v) (f_X12_line fu 153 d v) [(120, none), (218, none)] P_hall st := by
  obtain ⟨y, u, w, t1, t2, t3, t4⟩ := line_2 hT hP fu d v hv
  refine ⟨y, u, w, t1, t2, ?_, t4⟩
  rw [line_c hT fu d v hv] at t1
  by_cases h : 0 ≤ d ∧ d ≤ 3
  · rw [if_pos h] at t1
    obtain ⟨-, rfl⟩ := Prod.mk.inj (Option.some.inj t1)
    rw [line_r (st := sI st 120 (ix d) (1 - v)) (hT.r rfl) fu d v hv, if_pos h] at t2
    obtain ⟨-, rfl⟩ := Prod.mk.inj (Option.some.inj t2)
    exact (Fr.ia st 120 _ _).tr (Fr.ia _ 218 _ _)
  · rw [if_neg h] at t1
    obtain ⟨-, rfl⟩ := Prod.mk.inj (Option.some.inj t1)
    rw [line_r hT fu d v hv, if_neg h] at t2
    obtain ⟨-, rfl⟩ := Prod.mk.inj (Option.some.inj t2)
    exact Fr.rf
theorem frx {st w : St} (h : P_txt st) (s1 : Same S_tape st w) (s2 : Same S_fault st w) (e : gI w 3 = gI st 3) : P_txt w := ⟨h.1.fr s1, h.2.1.fr s2, fun k => by rw [e]; exact h.2.2 k⟩
theorem P_ls.up {k : Nat} {st : St} (h : P_ls k st) : P_ls (k + 1) st := by
  obtain ⟨N, sp, Q, C, A, DD, hN, q⟩ := h
  exact ⟨N, sp, Q, C, A, DD, by omega, q⟩
theorem P_ls.now {k : Nat} {st : St} (h : P_ls k st) : P_now k st := by
  obtain ⟨N, sp, Q, C, A, DD, hN, q1, q2, -⟩ := h
  exact ⟨N, hN, q1, q2⟩
/-- what holds behind c calls -/
def Inv (c : Nat) (st : St) : Prop := Top st ∧ P_txt st ∧ P_wire st ∧ P_ways st ∧ P_hb st ∧ P_rul st ∧ P_sh st ∧ P_ls c st ∧ P_ax st ∧ P_ev st ∧ P_lk st
theorem Inv.up {c : Nat} {st : St} (h : Inv c st) : Inv (c + 1) st := by
  obtain ⟨hT, hX, hW, hY, hb, hR, hS, h1, h2, h3, h4⟩ := h
  exact ⟨hT, hX, hW, hY, hb, hR, hS, h1.up, h2, h3, h4⟩
def W_em : List PL := [(145, none), (146, none), (147, none), (148, none), (149, none), (150, none), (153, some 123), (255, none), (256, none), (257, none), (258, none), (259, none), (260, none), (261, none)]
set_option maxRecDepth 100000 in
theorem s_feed {fu : Nat} (hf : 10000 ≤ fu) : Q_feed fu Inv := by
  obtain ⟨g, rfl⟩ : ∃ g, fu = g + 5 := ⟨fu - 5, by omega⟩
  intro c hc a b d e f st h
  obtain ⟨hT, hX, hW, hY, hb, hR, hS, h1, h2, h3, h4⟩ := id h
  obtain ⟨r, u, w, e1, e2, fr, q⟩ := feed_2b hT hX.1 hX.2.2 g a b d e f
  exact ⟨r, u, w, e1, e2, hT.fr (fr.same (by decide)), ⟨q.1, hX.2.1.fr (fr.same (by decide)), q.2⟩, hW.fr (fr.same (by decide)), hY.fr (fr.same (by decide)), ⟨hb.1.fr (fr.same (by decide)), hb.2.fr (fr.same (by decide))⟩, hR.fr (fr.same (by decide)), hS.fr (fr.same (by decide)), (h1.fr (fr.same (by decide))).up, h2.fr (fr.same (by decide)), h3.fr (fr.same (by decide)), h4.fr (fr.same (by decide))⟩
theorem cut_3 {st : St} (hT : Top st) (hP : P_tape st) (fu : Nat) (n : Int32) : Two (f_X11_cut fu 1 n) (f_X12_cut fu 153 n) [(2, some 1), (153, some 1)] P_tape st := by
  obtain ⟨y, u, w, t1, t2, t3, t4⟩ := cut_2 hT hP fu n
  refine ⟨y, u, w, t1, t2, ?_, t4⟩
  rw [cut_c hT fu n] at t1
  have fu1 : Fr [(2, some 1)] st u := by
    by_cases h : 0 ≤ n ∧ n ≤ gI st 2 1
    · rw [if_pos h] at t1
      obtain ⟨-, rfl⟩ := Prod.mk.inj (Option.some.inj t1)
      exact Fr.i _ _ _ _
    · rw [if_neg h] at t1
      obtain ⟨-, rfl⟩ := Prod.mk.inj (Option.some.inj t1)
      exact Fr.rf
  rw [cut_r (st := u) fu n] at t2
  have fw1 : Fr [(153, some 1)] u w := by
    by_cases h : 0 ≤ n ∧ n ≤ gI u 153 1
    · rw [if_pos h] at t2
      obtain ⟨-, rfl⟩ := Prod.mk.inj (Option.some.inj t2)
      exact Fr.i _ _ _ _
    · rw [if_neg h] at t2
      obtain ⟨-, rfl⟩ := Prod.mk.inj (Option.some.inj t2)
      exact Fr.rf
  exact fu1.tr fw1
set_option maxRecDepth 100000 in
theorem s_cut {fu : Nat} (hf : 10000 ≤ fu) : Q_cut fu Inv := by
  intro c hc a st h
  obtain ⟨hT, hX, hW, hY, hb, hR, hS, h1, h2, h3, h4⟩ := id h
  obtain ⟨r, u, w, e1, e2, fr, q⟩ := cut_3 hT hX.1 fu a
  exact ⟨r, u, w, e1, e2, hT.fr (fr.same (by decide)), ⟨q, hX.2.1.fr (fr.same (by decide)), fun k => by rw [fr.fi 3 (by decide)]; exact hX.2.2 k⟩, hW.fr (fr.same (by decide)), hY.fr (fr.same (by decide)), ⟨hb.1.fr (fr.same (by decide)), hb.2.fr (fr.same (by decide))⟩, hR.fr (fr.same (by decide)), hS.fr (fr.same (by decide)), (h1.fr (fr.same (by decide))).up, h2.fr (fr.same (by decide)), h3.fr (fr.same (by decide)), h4.fr (fr.same (by decide))⟩
set_option maxRecDepth 100000 in
theorem s_list {fu : Nat} (hf : 10000 ≤ fu) : Q_list fu Inv := by
  intro c hc a st h
  obtain ⟨hT, hX, hW, hY, hb, hR, hS, h1, h2, h3, h4⟩ := id h
  obtain ⟨r, u, w, e1, e2, fr, q⟩ := list_3 hT hX h1 fu (by omega) a
  exact ⟨r, u, w, e1, e2, q.1, q.2.1, hW.fr (fr.same (by decide)), hY.fr (fr.same (by decide)), ⟨hb.1.fr (fr.same (by decide)), hb.2.fr (fr.same (by decide))⟩, hR.fr (fr.same (by decide)), hS.fr (fr.same (by decide)), (q.2.2).up, h2.fr (fr.same (by decide)), h3.fr (fr.same (by decide)), h4.fr (fr.same (by decide))⟩
set_option maxRecDepth 100000 in
theorem s_lock {fu : Nat} (hf : 10000 ≤ fu) : Q_lock fu Inv := by
  intro c hc a st h
  obtain ⟨hT, hX, hW, hY, hb, hR, hS, h1, h2, h3, h4⟩ := id h
  obtain ⟨r, u, w, e1, e2, fr, q⟩ := lock_2 hT hX h4 fu (by omega) a
  exact ⟨r, u, w, e1, e2, hT.fr (fr.same (by decide)), q.1, hW.fr (fr.same (by decide)), hY.fr (fr.same (by decide)), ⟨hb.1.fr (fr.same (by decide)), hb.2.fr (fr.same (by decide))⟩, hR.fr (fr.same (by decide)), hS.fr (fr.same (by decide)), (h1.fr (fr.same (by decide))).up, h2.fr (fr.same (by decide)), h3.fr (fr.same (by decide)), q.2⟩
set_option maxRecDepth 100000 in
theorem s_rules {fu : Nat} (hf : 10000 ≤ fu) : Q_rules fu Inv := by
  intro c hc st h
  obtain ⟨hT, hX, hW, hY, hb, hR, hS, h1, h2, h3, h4⟩ := id h
  obtain ⟨r, u, w, e1, e2, fr, q⟩ := rules_2 hT hX hR fu (by omega)
  exact ⟨r, u, w, e1, e2, hT.fr (fr.same (by decide)), q.1, hW.fr (fr.same (by decide)), hY.fr (fr.same (by decide)), ⟨hb.1.fr (fr.same (by decide)), hb.2.fr (fr.same (by decide))⟩, q.2, hS.fr (fr.same (by decide)), (h1.fr (fr.same (by decide))).up, h2.fr (fr.same (by decide)), h3.fr (fr.same (by decide)), h4.fr (fr.same (by decide))⟩
set_option maxRecDepth 100000 in
theorem s_shares {fu : Nat} (hf : 10000 ≤ fu) : Q_shares fu Inv := by
  intro c hc st h
  obtain ⟨hT, hX, hW, hY, hb, hR, hS, h1, h2, h3, h4⟩ := id h
  obtain ⟨r, u, w, e1, e2, fr, q⟩ := shares_2 hT hX hS fu (by omega)
  exact ⟨r, u, w, e1, e2, hT.fr (fr.same (by decide)), q.1, hW.fr (fr.same (by decide)), hY.fr (fr.same (by decide)), ⟨hb.1.fr (fr.same (by decide)), hb.2.fr (fr.same (by decide))⟩, hR.fr (fr.same (by decide)), q.2, (h1.fr (fr.same (by decide))).up, h2.fr (fr.same (by decide)), h3.fr (fr.same (by decide)), h4.fr (fr.same (by decide))⟩
set_option maxRecDepth 100000 in
theorem s_fault {fu : Nat} (hf : 10000 ≤ fu) : Q_fault fu Inv := by
  intro c hc st h
  obtain ⟨hT, hX, hW, hY, hb, hR, hS, h1, h2, h3, h4⟩ := id h
  obtain ⟨r, u, w, e1, e2, fr, q⟩ := fault_2 hT hX.2.1 fu
  exact ⟨r, u, w, e1, e2, hT.fr (fr.same (by decide)), frx hX (fr.same (by decide)) (fr.same (by decide)) (fr.fi 3 (by decide)), hW.fr (fr.same (by decide)), hY.fr (fr.same (by decide)), ⟨hb.1.fr (fr.same (by decide)), hb.2.fr (fr.same (by decide))⟩, hR.fr (fr.same (by decide)), hS.fr (fr.same (by decide)), (h1.fr (fr.same (by decide))).up, h2.fr (fr.same (by decide)), h3.fr (fr.same (by decide)), h4.fr (fr.same (by decide))⟩
set_option maxRecDepth 100000 in
theorem s_tracks {fu : Nat} (hf : 10000 ≤ fu) : Q_tracks fu Inv := by
  intro c hc a b d e st h
  obtain ⟨hT, hX, hW, hY, hb, hR, hS, h1, h2, h3, h4⟩ := id h
  obtain ⟨r, e1, e2⟩ := tracks_2 hT h1 fu (by omega) a b d e
  exact ⟨r, st, st, e1, e2, h.up⟩
set_option maxRecDepth 100000 in
theorem s_go {fu : Nat} (hf : 10000 ≤ fu) : Q_go fu Inv := by
  intro c hc a st h
  obtain ⟨hT, hX, hW, hY, hb, hR, hS, h1, h2, h3, h4⟩ := id h
  obtain ⟨r, u, w, e1, e2, fr, q⟩ := go_2 (by omega) hT (LI.of h1 h2 h3 h4) fu (by omega) a
  exact ⟨r, u, w, e1, e2, hT.fr (fr.same (by decide)), frx hX (fr.same (by decide)) (fr.same (by decide)) (fr.fi 3 (by decide)), hW.fr (fr.same (by decide)), hY.fr (fr.same (by decide)), ⟨hb.1.fr (fr.same (by decide)), hb.2.fr (fr.same (by decide))⟩, hR.fr (fr.same (by decide)), hS.fr (fr.same (by decide)), (q.to.1).up, q.to.2.1, q.to.2.2.1, q.to.2.2.2⟩
set_option maxRecDepth 100000 in
theorem s_play {fu : Nat} (hf : 10000 ≤ fu) : Q_play fu Inv := by
  intro c hc a b d st h
  obtain ⟨hT, hX, hW, hY, hb, hR, hS, h1, h2, h3, h4⟩ := id h
  obtain ⟨r, u, w, e1, e2, fr, q⟩ := play_2 (by omega) hT (LI.of h1 h2 h3 h4) fu (by omega) a b d
  exact ⟨r, u, w, e1, e2, hT.fr (fr.same (by decide)), frx hX (fr.same (by decide)) (fr.same (by decide)) (fr.fi 3 (by decide)), hW.fr (fr.same (by decide)), hY.fr (fr.same (by decide)), ⟨hb.1.fr (fr.same (by decide)), hb.2.fr (fr.same (by decide))⟩, hR.fr (fr.same (by decide)), hS.fr (fr.same (by decide)), (q.to.1).up, q.to.2.1, q.to.2.2.1, q.to.2.2.2⟩
set_option maxRecDepth 100000 in
theorem s_of {fu : Nat} (hf : 10000 ≤ fu) : Q_of fu Inv := by
  intro c hc a b st h
  obtain ⟨hT, hX, hW, hY, hb, hR, hS, h1, h2, h3, h4⟩ := id h
  obtain ⟨r, e1, e2⟩ := of_2 hT h1 (by omega) fu (by omega) a b
  exact ⟨r, st, st, e1, e2, h.up⟩
set_option maxRecDepth 100000 in
theorem s_level {fu : Nat} (hf : 10000 ≤ fu) : Q_level fu Inv := by
  intro c hc a b st h
  obtain ⟨hT, hX, hW, hY, hb, hR, hS, h1, h2, h3, h4⟩ := id h
  obtain ⟨r, e1, e2⟩ := level_2 hT h1 (by omega) fu a b
  exact ⟨r, st, st, e1, e2, h.up⟩
set_option maxRecDepth 100000 in
theorem s_out {fu : Nat} (hf : 10000 ≤ fu) : Q_out fu Inv := by
  intro c hc a st h
  obtain ⟨hT, hX, hW, hY, hb, hR, hS, h1, h2, h3, h4⟩ := id h
  obtain ⟨r, e1, e2⟩ := out_2 hT h1 (by omega) fu (by omega) a
  exact ⟨r, st, st, e1, e2, h.up⟩
set_option maxRecDepth 100000 in
theorem s_patch {fu : Nat} (hf : 10000 ≤ fu) : Q_patch fu Inv := by
  intro c hc a b d st h
  obtain ⟨hT, hX, hW, hY, hb, hR, hS, h1, h2, h3, h4⟩ := id h
  obtain ⟨r, u, w, e1, e2, fr, q⟩ := patch_2 hT hW fu a b d
  exact ⟨r, u, w, e1, e2, hT.fr (fr.same (by decide)), frx hX (fr.same (by decide)) (fr.same (by decide)) (fr.fi 3 (by decide)), q, hY.fr (fr.same (by decide)), ⟨hb.1.fr (fr.same (by decide)), hb.2.fr (fr.same (by decide))⟩, hR.fr (fr.same (by decide)), hS.fr (fr.same (by decide)), (h1.fr (fr.same (by decide))).up, h2.fr (fr.same (by decide)), h3.fr (fr.same (by decide)), h4.fr (fr.same (by decide))⟩
set_option maxRecDepth 100000 in
theorem s_grand {fu : Nat} (hf : 10000 ≤ fu) : Q_grand fu Inv := by
  intro c hc a st h
  obtain ⟨hT, hX, hW, hY, hb, hR, hS, h1, h2, h3, h4⟩ := id h
  obtain ⟨r, u, w, e1, e2, fr, q⟩ := grand_2 hT hW fu a
  exact ⟨r, u, w, e1, e2, hT.fr (fr.same (by decide)), frx hX (fr.same (by decide)) (fr.same (by decide)) (fr.fi 3 (by decide)), q, hY.fr (fr.same (by decide)), ⟨hb.1.fr (fr.same (by decide)), hb.2.fr (fr.same (by decide))⟩, hR.fr (fr.same (by decide)), hS.fr (fr.same (by decide)), (h1.fr (fr.same (by decide))).up, h2.fr (fr.same (by decide)), h3.fr (fr.same (by decide)), h4.fr (fr.same (by decide))⟩
set_option maxRecDepth 100000 in
theorem s_wire {fu : Nat} (hf : 10000 ≤ fu) : Q_wire fu Inv := by
  intro c hc a st h
  obtain ⟨hT, hX, hW, hY, hb, hR, hS, h1, h2, h3, h4⟩ := id h
  obtain ⟨r, e1, e2⟩ := wire_2 hT h1 hW (by omega) fu (by omega) a
  exact ⟨r, st, st, e1, e2, h.up⟩
set_option maxRecDepth 100000 in
theorem s_axis {fu : Nat} (hf : 10000 ≤ fu) : Q_axis fu Inv := by
  intro c hc a b d e f st h
  obtain ⟨hT, hX, hW, hY, hb, hR, hS, h1, h2, h3, h4⟩ := id h
  obtain ⟨r, u, w, e1, e2, fr, q⟩ := axis_2 hT h2 fu a b d e f
  exact ⟨r, u, w, e1, e2, hT.fr (fr.same (by decide)), frx hX (fr.same (by decide)) (fr.same (by decide)) (fr.fi 3 (by decide)), hW.fr (fr.same (by decide)), hY.fr (fr.same (by decide)), ⟨hb.1.fr (fr.same (by decide)), hb.2.fr (fr.same (by decide))⟩, hR.fr (fr.same (by decide)), hS.fr (fr.same (by decide)), (h1.fr (fr.same (by decide))).up, q, h3.fr (fr.same (by decide)), h4.fr (fr.same (by decide))⟩
set_option maxRecDepth 100000 in
theorem s_to {fu : Nat} (hf : 10000 ≤ fu) : Q_to fu Inv := by
  intro c hc a b st h
  obtain ⟨hT, hX, hW, hY, hb, hR, hS, h1, h2, h3, h4⟩ := id h
  obtain ⟨r, u, w, e1, e2, fr, q⟩ := to_2 hT h4 h3 h2 fu (by omega) a b
  exact ⟨r, u, w, e1, e2, hT.fr (fr.same (by decide)), frx hX (fr.same (by decide)) (fr.same (by decide)) (fr.fi 3 (by decide)), hW.fr (fr.same (by decide)), hY.fr (fr.same (by decide)), ⟨hb.1.fr (fr.same (by decide)), hb.2.fr (fr.same (by decide))⟩, hR.fr (fr.same (by decide)), hS.fr (fr.same (by decide)), (h1.fr (fr.same (by decide))).up, q, h3.fr (fr.same (by decide)), h4.fr (fr.same (by decide))⟩
set_option maxRecDepth 100000 in
theorem s_axisAt {fu : Nat} (hf : 10000 ≤ fu) : Q_axisAt fu Inv := by
  intro c hc a b st h
  obtain ⟨hT, hX, hW, hY, hb, hR, hS, h1, h2, h3, h4⟩ := id h
  obtain ⟨r, u, w, e1, e2, fr, q⟩ := axisAt_2 hT h4 h3 h2 fu (by omega) a b
  exact ⟨r, u, w, e1, e2, hT.fr (fr.same (by decide)), frx hX (fr.same (by decide)) (fr.same (by decide)) (fr.fi 3 (by decide)), hW.fr (fr.same (by decide)), hY.fr (fr.same (by decide)), ⟨hb.1.fr (fr.same (by decide)), hb.2.fr (fr.same (by decide))⟩, hR.fr (fr.same (by decide)), hS.fr (fr.same (by decide)), (h1.fr (fr.same (by decide))).up, h2.fr (fr.same (by decide)), h3.fr (fr.same (by decide)), h4.fr (fr.same (by decide))⟩
set_option maxRecDepth 100000 in
theorem s_faults {fu : Nat} (hf : 10000 ≤ fu) : Q_faults fu Inv := by
  intro c hc a b st h
  obtain ⟨hT, hX, hW, hY, hb, hR, hS, h1, h2, h3, h4⟩ := id h
  obtain ⟨r, u, w, e1, e2, fr, q⟩ := faults_2 hT h2 fu a b
  exact ⟨r, u, w, e1, e2, hT.fr (fr.same (by decide)), frx hX (fr.same (by decide)) (fr.same (by decide)) (fr.fi 3 (by decide)), hW.fr (fr.same (by decide)), hY.fr (fr.same (by decide)), ⟨hb.1.fr (fr.same (by decide)), hb.2.fr (fr.same (by decide))⟩, hR.fr (fr.same (by decide)), hS.fr (fr.same (by decide)), (h1.fr (fr.same (by decide))).up, q, h3.fr (fr.same (by decide)), h4.fr (fr.same (by decide))⟩
set_option maxRecDepth 100000 in
theorem s_stop {fu : Nat} (hf : 10000 ≤ fu) : Q_stop fu Inv := by
  intro c hc v hv st h
  obtain ⟨hT, hX, hW, hY, hb, hR, hS, h1, h2, h3, h4⟩ := id h
  obtain ⟨u, w, e1, e2, fr, q⟩ := stop_2 hT h2 fu (by omega) v hv
  exact ⟨u, w, e1, e2, hT.fr (fr.same (by decide)), frx hX (fr.same (by decide)) (fr.same (by decide)) (fr.fi 3 (by decide)), hW.fr (fr.same (by decide)), hY.fr (fr.same (by decide)), ⟨hb.1.fr (fr.same (by decide)), hb.2.fr (fr.same (by decide))⟩, hR.fr (fr.same (by decide)), hS.fr (fr.same (by decide)), (h1.fr (fr.same (by decide))).up, q, h3.fr (fr.same (by decide)), h4.fr (fr.same (by decide))⟩
set_option maxRecDepth 100000 in
theorem s_event {fu : Nat} (hf : 10000 ≤ fu) : Q_event fu Inv := by
  intro c hc a v hv st h
  obtain ⟨hT, hX, hW, hY, hb, hR, hS, h1, h2, h3, h4⟩ := id h
  obtain ⟨r, u, w, e1, e2, fr, q⟩ := event_2 hT h3 fu a v hv
  exact ⟨r, u, w, e1, e2, hT.fr (fr.same (by decide)), frx hX (fr.same (by decide)) (fr.same (by decide)) (fr.fi 3 (by decide)), hW.fr (fr.same (by decide)), hY.fr (fr.same (by decide)), ⟨hb.1.fr (fr.same (by decide)), hb.2.fr (fr.same (by decide))⟩, hR.fr (fr.same (by decide)), hS.fr (fr.same (by decide)), (h1.fr (fr.same (by decide))).up, h2.fr (fr.same (by decide)), q, h4.fr (fr.same (by decide))⟩
set_option maxRecDepth 100000 in
theorem s_tick {fu : Nat} (hf : 10000 ≤ fu) : Q_tick fu Inv := by
  intro c hc a st h
  obtain ⟨hT, hX, hW, hY, hb, hR, hS, h1, h2, h3, h4⟩ := id h
  obtain ⟨r, u, w, e1, e2, fr, q⟩ := tick_2 hc hT (LI.of h1 h2 h3 h4) hb fu (by omega) a
  exact ⟨r, u, w, e1, e2, hT.fr (fr.same (by decide)), frx hX (fr.same (by decide)) (fr.same (by decide)) (fr.fi 3 (by decide)), hW.fr (fr.same (by decide)), hY.fr (fr.same (by decide)), q.2, hR.fr (fr.same (by decide)), hS.fr (fr.same (by decide)), q.1.to.1, q.1.to.2.1, q.1.to.2.2.1, q.1.to.2.2.2⟩
set_option maxRecDepth 100000 in
theorem s_section {fu : Nat} (hf : 10000 ≤ fu) : Q_section fu Inv := by
  intro c hc a b st h
  obtain ⟨hT, hX, hW, hY, hb, hR, hS, h1, h2, h3, h4⟩ := id h
  obtain ⟨r, u, w, e1, e2, fr, q⟩ := section_3 hT hb.1 fu a b
  exact ⟨r, u, w, e1, e2, hT.fr (fr.same (by decide)), frx hX (fr.same (by decide)) (fr.same (by decide)) (fr.fi 3 (by decide)), hW.fr (fr.same (by decide)), hY.fr (fr.same (by decide)), ⟨q, hb.2.fr (fr.same (by decide))⟩, hR.fr (fr.same (by decide)), hS.fr (fr.same (by decide)), (h1.fr (fr.same (by decide))).up, h2.fr (fr.same (by decide)), h3.fr (fr.same (by decide)), h4.fr (fr.same (by decide))⟩
set_option maxRecDepth 100000 in
theorem s_row {fu : Nat} (hf : 10000 ≤ fu) : Q_row fu Inv := by
  intro c hc a b d st h
  obtain ⟨hT, hX, hW, hY, hb, hR, hS, h1, h2, h3, h4⟩ := id h
  obtain ⟨r, u, w, e1, e2, fr, q⟩ := row_3 hT hb fu (by omega) a b d
  exact ⟨r, u, w, e1, e2, hT.fr (fr.same (by decide)), frx hX (fr.same (by decide)) (fr.same (by decide)) (fr.fi 3 (by decide)), hW.fr (fr.same (by decide)), hY.fr (fr.same (by decide)), q, hR.fr (fr.same (by decide)), hS.fr (fr.same (by decide)), (h1.fr (fr.same (by decide))).up, h2.fr (fr.same (by decide)), h3.fr (fr.same (by decide)), h4.fr (fr.same (by decide))⟩
set_option maxRecDepth 100000 in
theorem s_line {fu : Nat} (hf : 10000 ≤ fu) : Q_line fu Inv := by
  intro c hc a v hv st h
  obtain ⟨hT, hX, hW, hY, hb, hR, hS, h1, h2, h3, h4⟩ := id h
  obtain ⟨r, u, w, e1, e2, fr, q⟩ := line_3 hT hb.1 fu a v hv
  exact ⟨r, u, w, e1, e2, hT.fr (fr.same (by decide)), frx hX (fr.same (by decide)) (fr.same (by decide)) (fr.fi 3 (by decide)), hW.fr (fr.same (by decide)), hY.fr (fr.same (by decide)), ⟨q, hb.2.fr (fr.same (by decide))⟩, hR.fr (fr.same (by decide)), hS.fr (fr.same (by decide)), (h1.fr (fr.same (by decide))).up, h2.fr (fr.same (by decide)), h3.fr (fr.same (by decide)), h4.fr (fr.same (by decide))⟩
set_option maxRecDepth 100000 in
theorem s_ask {fu : Nat} (hf : 10000 ≤ fu) : Q_ask fu Inv := by
  intro c hc a b d e f g st h
  obtain ⟨hT, hX, hW, hY, hb, hR, hS, h1, h2, h3, h4⟩ := id h
  obtain ⟨r, u, w, e1, e2, fr, q⟩ := ask_2 hT hb h1.now fu (by omega) a b d e f g
  exact ⟨r, u, w, e1, e2, hT.fr (fr.same (by decide)), frx hX (fr.same (by decide)) (fr.same (by decide)) (fr.fi 3 (by decide)), hW.fr (fr.same (by decide)), hY.fr (fr.same (by decide)), q, hR.fr (fr.same (by decide)), hS.fr (fr.same (by decide)), (h1.fr (fr.same (by decide))).up, h2.fr (fr.same (by decide)), h3.fr (fr.same (by decide)), h4.fr (fr.same (by decide))⟩
set_option maxRecDepth 100000 in
theorem s_hold {fu : Nat} (hf : 10000 ≤ fu) : Q_hold fu Inv := by
  intro c hc a b st h
  obtain ⟨hT, hX, hW, hY, hb, hR, hS, h1, h2, h3, h4⟩ := id h
  obtain ⟨r, e1, e2⟩ := hold_2 hT hb hR fu (by omega) a b
  exact ⟨r, st, st, e1, e2, h.up⟩
set_option maxRecDepth 100000 in
theorem s_pay {fu : Nat} (hf : 10000 ≤ fu) : Q_pay fu Inv := by
  intro c hc a b st h
  obtain ⟨hT, hX, hW, hY, hb, hR, hS, h1, h2, h3, h4⟩ := id h
  obtain ⟨r, u, w, e1, e2, fr, q⟩ := pay_2 hT hb hR fu (by omega) a b
  exact ⟨r, u, w, e1, e2, hT.fr (fr.same (by decide)), frx hX (fr.same (by decide)) (fr.same (by decide)) (fr.fi 3 (by decide)), hW.fr (fr.same (by decide)), hY.fr (fr.same (by decide)), q, hR.fr (fr.same (by decide)), hS.fr (fr.same (by decide)), (h1.fr (fr.same (by decide))).up, h2.fr (fr.same (by decide)), h3.fr (fr.same (by decide)), h4.fr (fr.same (by decide))⟩
set_option maxRecDepth 100000 in
theorem s_give {fu : Nat} (hf : 10000 ≤ fu) : Q_give fu Inv := by
  intro c hc a st h
  obtain ⟨hT, hX, hW, hY, hb, hR, hS, h1, h2, h3, h4⟩ := id h
  obtain ⟨r, u, w, e1, e2, fr, q⟩ := give_2 hT hb fu (by omega) a
  exact ⟨r, u, w, e1, e2, hT.fr (fr.same (by decide)), frx hX (fr.same (by decide)) (fr.same (by decide)) (fr.fi 3 (by decide)), hW.fr (fr.same (by decide)), hY.fr (fr.same (by decide)), q, hR.fr (fr.same (by decide)), hS.fr (fr.same (by decide)), (h1.fr (fr.same (by decide))).up, h2.fr (fr.same (by decide)), h3.fr (fr.same (by decide)), h4.fr (fr.same (by decide))⟩
set_option maxRecDepth 100000 in
theorem s_back {fu : Nat} (hf : 10000 ≤ fu) : Q_back fu Inv := by
  intro c hc a b st h
  obtain ⟨hT, hX, hW, hY, hb, hR, hS, h1, h2, h3, h4⟩ := id h
  obtain ⟨r, u, w, e1, e2, fr, q⟩ := back_2 hT hb fu (by omega) a b
  exact ⟨r, u, w, e1, e2, hT.fr (fr.same (by decide)), frx hX (fr.same (by decide)) (fr.same (by decide)) (fr.fi 3 (by decide)), hW.fr (fr.same (by decide)), hY.fr (fr.same (by decide)), q, hR.fr (fr.same (by decide)), hS.fr (fr.same (by decide)), (h1.fr (fr.same (by decide))).up, h2.fr (fr.same (by decide)), h3.fr (fr.same (by decide)), h4.fr (fr.same (by decide))⟩
set_option maxRecDepth 100000 in
theorem s_enter {fu : Nat} (hf : 10000 ≤ fu) : Q_enter fu Inv := by
  intro c hc a st h
  obtain ⟨hT, hX, hW, hY, hb, hR, hS, h1, h2, h3, h4⟩ := id h
  obtain ⟨r, u, w, e1, e2, fr, q⟩ := enter_2 hT hb fu a
  exact ⟨r, u, w, e1, e2, hT.fr (fr.same (by decide)), frx hX (fr.same (by decide)) (fr.same (by decide)) (fr.fi 3 (by decide)), hW.fr (fr.same (by decide)), hY.fr (fr.same (by decide)), q, hR.fr (fr.same (by decide)), hS.fr (fr.same (by decide)), (h1.fr (fr.same (by decide))).up, h2.fr (fr.same (by decide)), h3.fr (fr.same (by decide)), h4.fr (fr.same (by decide))⟩
set_option maxRecDepth 100000 in
theorem s_seat {fu : Nat} (hf : 10000 ≤ fu) : Q_seat fu Inv := by
  intro c hc a b st h
  obtain ⟨hT, hX, hW, hY, hb, hR, hS, h1, h2, h3, h4⟩ := id h
  obtain ⟨r, u, w, e1, e2, fr, q⟩ := seat_2 hT hb.1 fu a b
  exact ⟨r, u, w, e1, e2, hT.fr (fr.same (by decide)), frx hX (fr.same (by decide)) (fr.same (by decide)) (fr.fi 3 (by decide)), hW.fr (fr.same (by decide)), hY.fr (fr.same (by decide)), ⟨hb.1.fr (fr.same (by decide)), hb.2.fr (fr.same (by decide))⟩, hR.fr (fr.same (by decide)), hS.fr (fr.same (by decide)), (h1.fr (fr.same (by decide))).up, h2.fr (fr.same (by decide)), h3.fr (fr.same (by decide)), h4.fr (fr.same (by decide))⟩
set_option maxRecDepth 100000 in
theorem s_told {fu : Nat} (hf : 10000 ≤ fu) : Q_told fu Inv := by
  intro c hc a st h
  obtain ⟨hT, hX, hW, hY, hb, hR, hS, h1, h2, h3, h4⟩ := id h
  obtain ⟨r, e1, e2⟩ := told_2 hT hb h2 h1.now (by omega) fu (by omega) a
  exact ⟨r, st, st, e1, e2, h.up⟩
set_option maxRecDepth 100000 in
theorem s_share {fu : Nat} (hf : 10000 ≤ fu) : Q_share fu Inv := by
  intro c hc a b st h
  obtain ⟨hT, hX, hW, hY, hb, hR, hS, h1, h2, h3, h4⟩ := id h
  obtain ⟨r, u, w, e1, e2, fr, q⟩ := share_2 hT hb hS fu (by omega) a b
  exact ⟨r, u, w, e1, e2, hT.fr (fr.same (by decide)), frx hX (fr.same (by decide)) (fr.same (by decide)) (fr.fi 3 (by decide)), hW.fr (fr.same (by decide)), hY.fr (fr.same (by decide)), ⟨hb.1.fr (fr.same (by decide)), hb.2.fr (fr.same (by decide))⟩, hR.fr (fr.same (by decide)), hS.fr (fr.same (by decide)), (h1.fr (fr.same (by decide))).up, h2.fr (fr.same (by decide)), h3.fr (fr.same (by decide)), h4.fr (fr.same (by decide))⟩
set_option maxRecDepth 100000 in
theorem s_way {fu : Nat} (hf : 10000 ≤ fu) : Q_way fu Inv := by
  intro c hc a b d e st h
  obtain ⟨hT, hX, hW, hY, hb, hR, hS, h1, h2, h3, h4⟩ := id h
  obtain ⟨r, u, w, e1, e2, fr, q⟩ := way_2 hT hY fu a b d e
  exact ⟨r, u, w, e1, e2, hT.fr (fr.same (by decide)), frx hX (fr.same (by decide)) (fr.same (by decide)) (fr.fi 3 (by decide)), hW.fr (fr.same (by decide)), q, ⟨hb.1.fr (fr.same (by decide)), hb.2.fr (fr.same (by decide))⟩, hR.fr (fr.same (by decide)), hS.fr (fr.same (by decide)), (h1.fr (fr.same (by decide))).up, h2.fr (fr.same (by decide)), h3.fr (fr.same (by decide)), h4.fr (fr.same (by decide))⟩
set_option maxRecDepth 100000 in
theorem s_crowd {fu : Nat} (hf : 10000 ≤ fu) : Q_crowd fu Inv := by
  intro c hc a b st h
  obtain ⟨hT, hX, hW, hY, hb, hR, hS, h1, h2, h3, h4⟩ := id h
  obtain ⟨r, u, w, e1, e2, fr, q⟩ := crowd_2 hT hY fu a b
  exact ⟨r, u, w, e1, e2, hT.fr (fr.same (by decide)), frx hX (fr.same (by decide)) (fr.same (by decide)) (fr.fi 3 (by decide)), hW.fr (fr.same (by decide)), q, ⟨hb.1.fr (fr.same (by decide)), hb.2.fr (fr.same (by decide))⟩, hR.fr (fr.same (by decide)), hS.fr (fr.same (by decide)), (h1.fr (fr.same (by decide))).up, h2.fr (fr.same (by decide)), h3.fr (fr.same (by decide)), h4.fr (fr.same (by decide))⟩
set_option maxRecDepth 100000 in
theorem s_clearWays {fu : Nat} (hf : 10000 ≤ fu) : Q_clearWays fu Inv := by
  intro c hc st h
  obtain ⟨hT, hX, hW, hY, hb, hR, hS, h1, h2, h3, h4⟩ := id h
  obtain ⟨u, w, e1, e2, fr, q⟩ := clearWays_2 hT hY fu (by omega)
  exact ⟨u, w, e1, e2, hT.fr (fr.same (by decide)), frx hX (fr.same (by decide)) (fr.same (by decide)) (fr.fi 3 (by decide)), hW.fr (fr.same (by decide)), q, ⟨hb.1.fr (fr.same (by decide)), hb.2.fr (fr.same (by decide))⟩, hR.fr (fr.same (by decide)), hS.fr (fr.same (by decide)), (h1.fr (fr.same (by decide))).up, h2.fr (fr.same (by decide)), h3.fr (fr.same (by decide)), h4.fr (fr.same (by decide))⟩
set_option maxRecDepth 100000 in
theorem s_empty {fu : Nat} (hE : ∀ st, Top st → P_ways st → Two (f_X11_empty fu 1) (f_X12_empty fu 153) W_em (fun _ => True) st) : Q_empty fu Inv := by
  intro c hc st h
  obtain ⟨hT, hX, hW, hY, hb, hR, hS, h1, h2, h3, h4⟩ := id h
  obtain ⟨r, u, w, e1, e2, fr, q⟩ := hE st hT hY
  exact ⟨r, u, w, e1, e2, hT.fr (fr.same (by decide)), frx hX (fr.same (by decide)) (fr.same (by decide)) (fr.fi 3 (by decide)), hW.fr (fr.same (by decide)), hY.fr (fr.same (by decide)), ⟨hb.1.fr (fr.same (by decide)), hb.2.fr (fr.same (by decide))⟩, hR.fr (fr.same (by decide)), hS.fr (fr.same (by decide)), (h1.fr (fr.same (by decide))).up, h2.fr (fr.same (by decide)), h3.fr (fr.same (by decide)), h4.fr (fr.same (by decide))⟩
theorem steps_ok {fu : Nat} (hf : 10000 ≤ fu) (hE : ∀ st, Top st → P_ways st → Two (f_X11_empty fu 1) (f_X12_empty fu 153) W_em (fun _ => True) st) : StepsOK fu Inv := ⟨fun c st _ h => h.up, s_feed hf, s_cut hf, s_list hf, s_lock hf, s_rules hf, s_shares hf, s_fault hf, s_tracks hf, s_go hf, s_play hf, s_of hf, s_level hf, s_out hf, s_patch hf, s_grand hf, s_wire hf, s_axis hf, s_to hf, s_axisAt hf, s_faults hf, s_stop hf, s_event hf, s_tick hf, s_section hf, s_row hf, s_line hf, s_ask hf, s_hold hf, s_pay hf, s_give hf, s_back hf, s_enter hf, s_seat hf, s_told hf, s_share hf, s_way hf, s_crowd hf, s_clearWays hf, s_empty hE⟩
