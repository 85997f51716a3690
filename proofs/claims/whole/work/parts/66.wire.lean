/-! PURE: seat; the wire's settings; events; fault -/
theorem seat_c {st : St} (hT : Top st) (fu : Nat) (r k : Int32) : f_X11_seat fu 1 r k st = some (if (0 ≤ r ∧ r ≤ 39) ∧ (0 ≤ k ∧ k ≤ 29) ∧ k < gI st 118 (ix r) then gI st 119 (ix (r * 30 + k)) else -1, st) := by
  unfold f_X11_seat
  simp only [within_eq, ca_s]
  by_cases h1 : 0 ≤ r ∧ r ≤ 39
  · by_cases h2 : 0 ≤ k ∧ k ≤ 29
    · obtain ⟨a, ha, rfl⟩ := nI_of3 (m := 39) h1.1 h1.2 (by omega)
      obtain ⟨b, hb, rfl⟩ := nI_of3 (m := 29) h2.1 h2.2 (by omega)
      have e2 := seat_ix (r := a) (k := b) (by omega) (by omega)
      have e3 : 30 * a + b < 2147483648 := by omega
      have ea : a < 2147483648 := by omega
      by_cases h3 : nI b < gI st 118 a
      · simp [h1, h2, h3, bd, ck, tp_1_3 hT, tp_115_2 hT, tp_115_3 hT, kd_1, kd_115, kd_118, kd_119, ix_nI ea, nI_lt0 ea, e2, ix_nI e3, nI_lt0 e3, nI_pos' (show a < 2 ^ 31 by omega), nI_pos' (show 30 * a + b < 2 ^ 31 by omega), show a < 40 by omega, show 30 * a + b < 1200 by omega]
      · simp [h1, h2, h3, bd, ck, tp_1_3 hT, tp_115_2 hT, kd_1, kd_115, kd_118, ix_nI ea, nI_lt0 ea, nI_pos' (show a < 2 ^ 31 by omega), show a < 40 by omega, b_X11_seat_33]
    · simp [h1, h2, b_X11_seat_33]
  · simp [h1, b_X11_seat_33]
theorem seat_r {st : St} (hT : Top st) (hl : ∀ r, ∃ n : Nat, n ≤ 30 ∧ gI st 216 r = nI n) (fu : Nat) (r k : Int32) : f_X12_seat fu 153 r k st = some (if (0 ≤ r ∧ r ≤ 39) ∧ (0 ≤ k ∧ k ≤ 29) ∧ k < gI st 216 (ix r) then gI st 217 (ix (r * 30 + k)) else -1, st) := by
  unfold f_X12_seat
  by_cases a1 : 0 ≤ r
  · by_cases a2 : r ≤ 39
    · by_cases a3 : 0 ≤ k
      · obtain ⟨a, ha, rfl⟩ := nI_of3 (m := 39) a1 a2 (by omega)
        obtain ⟨b, hb, rfl⟩ := nI_of (x := k) (nlt_of_le a3)
        have ea : a < 2147483648 := by omega
        obtain ⟨n, hn, hl⟩ := hl a
        by_cases h3 : nI b < gI st 216 a
        · have hbn : b < n := by rw [hl] at h3; exact (nI_ltI hb (by omega)).mp h3
          have e2 := seat_ix (r := a) (k := b) (by omega) (by omega)
          have e2' := seat_ix2 (r := a) (k := b) (by omega) (by omega)
          have e3 : 30 * a + b < 2147483648 := by omega
          have a4 : nI b ≤ 29 := (nI_leI (a := b) (b := 29) (by omega) (by omega)).mpr (by omega)
          simp [nlt_of_le a1, nlt_of_le a2, nlt_of_le a3, a1, a2, a3, a4, h3, bd, ck, tp_153_75 hT, tp_153_76 hT, kd_153, kd_216, kd_217, ix_nI ea, nI_lt0 ea, e2, e2', ix_nI e3, nI_lt0 e3, nI_pos' (show 30 * a + b < 2 ^ 31 by omega), show a < 40 by omega, show 30 * a + b < 1200 by omega, b_X12_seat_39]
        · simp [nlt_of_le a1, nlt_of_le a2, nlt_of_le a3, a1, h3, bd, ck, tp_153_75 hT, kd_153, kd_216, ix_nI ea, nI_lt0 ea, show a < 40 by omega, b_X12_seat_39, b_X12_seat_24]
      · simp [nlt_of_le a1, nlt_of_le a2, lt_of_nle a3, a3, b_X12_seat_39, b_X12_seat_24]
    · simp [nlt_of_le a1, lt_of_nle a2, a2, b_X12_seat_39, b_X12_seat_24]
  · simp [lt_of_nle a1, a1, b_X12_seat_39, b_X12_seat_24]
theorem seat_2 {st : St} (hT : Top st) (hP : P_hall st) (fu : Nat) (r k : Int32) : Two (f_X11_seat fu 1 r k) (f_X12_seat fu 153 r k) [] P_hall st := by
  have hr := seat_r hT (fun r => by rw [← hP.2.2.1]; exact hP.2.2.2.1 r) fu r k
  rw [← hP.2.2.1, ← hP.2.2.2.2.1] at hr
  exact ⟨_, _, _, seat_c hT fu r k, hr, Fr.rf, hP⟩
def S_wire : List PL := [(28, none), (29, none), (196, none), (197, none), (24, some 7), (153, some 53)]
def P_wire (st : St) : Prop := gI st 28 = gI st 196 ∧ gI st 29 = gI st 197 ∧ gI st 24 7 = gI st 153 53 ∧ (∀ k, 0 ≤ gI st 28 k ∧ gI st 28 k ≤ 64) ∧ (∀ k, 0 ≤ gI st 29 k ∧ gI st 29 k ≤ 3) ∧ 0 ≤ gI st 24 7 ∧ gI st 24 7 ≤ 255
theorem P_wire.fr {st u : St} (h : P_wire st) (hs : Same S_wire st u) : P_wire u := by
  unfold P_wire at h ⊢
  rw [hs.fi (o := 28) (by decide), hs.fi (o := 29) (by decide), hs.fi (o := 196) (by decide), hs.fi (o := 197) (by decide), hs.i (o := 24) (k := 7) (by decide), hs.i (o := 153) (k := 53) (by decide)]
  exact h
theorem patch_2 {st : St} (hT : Top st) (hP : P_wire st) (fu : Nat) (b c k : Int32) : Two (f_X11_patch fu 1 b c k) (f_X12_patch fu 153 b c k) S_wire P_wire st := by
  have hc := patch_c hT fu b c k
  by_cases h : 0 ≤ b ∧ b ≤ 127 ∧ 0 ≤ c ∧ c ≤ 64 ∧ 0 ≤ k ∧ k ≤ 3
  · rw [if_pos h] at hc
    have hr := patch_r (st := sI (sI st 28 (ix b) c) 29 (ix b) k) (hT.r rfl) fu b c k
    rw [if_pos h] at hr
    refine ⟨_, _, _, hc, hr, ((((Fr.ia st 28 _ _).tr (Fr.ia _ 29 _ _)).tr (Fr.ia _ 196 _ _)).tr (Fr.ia _ 197 _ _)).wd (by decide), ?_⟩
    obtain ⟨h1, h2, h3, h4, h5, h6⟩ := hP
    unfold P_wire
    simp only [gI_sI_o, gI_sI_n _ _ _ (show (28 : Nat) ≠ 197 by decide), gI_sI_n _ _ _ (show (28 : Nat) ≠ 196 by decide), gI_sI_n _ _ _ (show (28 : Nat) ≠ 29 by decide), gI_sI_n _ _ _ (show (29 : Nat) ≠ 197 by decide), gI_sI_n _ _ _ (show (29 : Nat) ≠ 196 by decide), gI_sI_n _ _ _ (show (29 : Nat) ≠ 28 by decide), gI_sI_n _ _ _ (show (196 : Nat) ≠ 197 by decide), gI_sI_n _ _ _ (show (196 : Nat) ≠ 29 by decide), gI_sI_n _ _ _ (show (196 : Nat) ≠ 28 by decide), gI_sI_n _ _ _ (show (197 : Nat) ≠ 196 by decide), gI_sI_n _ _ _ (show (197 : Nat) ≠ 29 by decide), gI_sI_n _ _ _ (show (197 : Nat) ≠ 28 by decide), gI_sI_n _ _ _ (show (24 : Nat) ≠ 197 by decide), gI_sI_n _ _ _ (show (24 : Nat) ≠ 196 by decide), gI_sI_n _ _ _ (show (24 : Nat) ≠ 29 by decide), gI_sI_n _ _ _ (show (24 : Nat) ≠ 28 by decide), gI_sI_n _ _ _ (show (153 : Nat) ≠ 197 by decide), gI_sI_n _ _ _ (show (153 : Nat) ≠ 196 by decide), gI_sI_n _ _ _ (show (153 : Nat) ≠ 29 by decide), gI_sI_n _ _ _ (show (153 : Nat) ≠ 28 by decide)]
    exact ⟨by rw [h1], by rw [h2], h3, upd_c (P := fun x => 0 ≤ x ∧ x ≤ 64) h4 ⟨h.2.2.1, h.2.2.2.1⟩, upd_c (P := fun x => 0 ≤ x ∧ x ≤ 3) h5 h.2.2.2.2, h6⟩
  · rw [if_neg h] at hc
    have hr := patch_r hT fu b c k
    rw [if_neg h] at hr
    exact ⟨_, _, _, hc, hr, Fr.rf, hP⟩
theorem grand_2 {st : St} (hT : Top st) (hP : P_wire st) (fu : Nat) (n : Int32) : Two (f_X11_grand fu 1 n) (f_X12_grand fu 153 n) S_wire P_wire st := by
  have hc := grand_c hT fu n
  by_cases h : 0 ≤ n ∧ n ≤ 255
  · rw [if_pos h] at hc
    have hr := grand_r (st := sI st 24 7 n) (hT.r rfl) fu n
    rw [if_pos h] at hr
    refine ⟨_, _, _, hc, hr, ((Fr.i st 24 7 _).tr (Fr.i _ 153 53 _)).wd (by decide), ?_⟩
    obtain ⟨h1, h2, h3, h4, h5, h6⟩ := hP
    unfold P_wire
    have e : ∀ o, o ≠ 24 → o ≠ 153 → gI (sI (sI st 24 7 n) 153 53 n) o = gI st o := fun o a b => by rw [gI_sI_n _ _ _ b, gI_sI_n _ _ _ a]
    have e1 : gI (sI (sI st 24 7 n) 153 53 n) 24 7 = n := by simp [gI_sI]
    have e2 : gI (sI (sI st 24 7 n) 153 53 n) 153 53 = n := by simp [gI_sI]
    rw [e 28 (by decide) (by decide), e 29 (by decide) (by decide), e 196 (by decide) (by decide), e 197 (by decide) (by decide), e1, e2]
    exact ⟨h1, h2, rfl, h4, h5, h⟩
  · rw [if_neg h] at hc
    have hr := grand_r hT fu n
    rw [if_neg h] at hr
    exact ⟨_, _, _, hc, hr, Fr.rf, hP⟩
def S_ev : List PL := [(6, none), (210, none)]
def P_ev (st : St) : Prop := gI st 6 = gI st 210 ∧ ∀ k, gI st 6 k = 0 ∨ gI st 6 k = 1
theorem P_ev.fr {st u : St} (h : P_ev st) (hs : Same S_ev st u) : P_ev u := by
  unfold P_ev at h ⊢
  rw [hs.fi (o := 6) (by decide), hs.fi (o := 210) (by decide)]
  exact h
theorem event_2 {st : St} (hT : Top st) (hP : P_ev st) (fu : Nat) (n v : Int32) (hv : v = 0 ∨ v = 1) : Two (f_X11_event fu 1 n v) (f_X12_event fu 153 n v) S_ev P_ev st := by
  have hc := event_c hT fu n v hv
  by_cases h : 0 ≤ n ∧ n ≤ 15
  · rw [if_pos h] at hc
    have hr := event_r (st := sI st 6 (ix n) v) (hT.r rfl) fu n v hv
    rw [if_pos h] at hr
    refine ⟨_, _, _, hc, hr, ((Fr.ia st 6 _ _).tr (Fr.ia _ 210 _ _)).wd (by decide), ?_⟩
    unfold P_ev
    rw [gI_sI_n _ _ _ (show (6 : Nat) ≠ 210 by decide), gI_sI_o, gI_sI_o, gI_sI_n _ _ _ (show (210 : Nat) ≠ 6 by decide)]
    exact ⟨by rw [hP.1], upd_c (P := fun x => x = 0 ∨ x = 1) hP.2 hv⟩
  · rw [if_neg h] at hc
    have hr := event_r hT fu n v hv
    rw [if_neg h] at hr
    exact ⟨_, _, _, hc, hr, Fr.rf, hP⟩
def S_fault : List PL := [(2, some 8), (153, some 6)]
def P_fault (st : St) : Prop := gI st 2 8 = gI st 153 6
theorem P_fault.fr {st u : St} (h : P_fault st) (hs : Same S_fault st u) : P_fault u := by
  unfold P_fault at h ⊢
  rw [hs.i (o := 2) (k := 8) (by decide), hs.i (o := 153) (k := 6) (by decide)]
  exact h
theorem fault_2 {st : St} (hT : Top st) (hP : P_fault st) (fu : Nat) : Two (f_X11_fault fu 1) (f_X12_fault fu 153) [] P_fault st :=
  ⟨_, _, _, fault_c hT fu, by rw [fault_r, ← hP], Fr.rf, hP⟩
