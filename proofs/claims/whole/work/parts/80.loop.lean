/-! PURE: the law's loop out of the steps of the calls (I c: what holds behind c calls) -/
def J2 (fC fR : St → Option (Int32 × St)) (A B : St → Prop) : Prop := ∀ st, A st → ∃ r u w, fC st = some (r, u) ∧ fR u = some (r, w) ∧ B w
def J2L (fC fR : St → Option (Int64 × St)) (A B : St → Prop) : Prop := ∀ st, A st → ∃ r u w, fC st = some (r, u) ∧ fR u = some (r, w) ∧ B w
def J2V (fC fR : St → Option St) (A B : St → Prop) : Prop := ∀ st, A st → ∃ u w, fC st = some u ∧ fR u = some w ∧ B w
def Q_feed (fu : Nat) (I : Nat → St → Prop) : Prop := ∀ c, c < 64 → ∀ a b d e f : Int32, J2 (f_X11_feed fu 1 a b d e f) (f_X12_feed fu 153 a b d e f) (I c) (I (c + 1))
def Q_cut (fu : Nat) (I : Nat → St → Prop) : Prop := ∀ c, c < 64 → ∀ a : Int32, J2 (f_X11_cut fu 1 a) (f_X12_cut fu 153 a) (I c) (I (c + 1))
def Q_list (fu : Nat) (I : Nat → St → Prop) : Prop := ∀ c, c < 64 → ∀ a : Int32, J2 (f_X11_list fu 1 a) (f_X12_list fu 153 a) (I c) (I (c + 1))
def Q_lock (fu : Nat) (I : Nat → St → Prop) : Prop := ∀ c, c < 64 → ∀ a : Int32, J2 (f_X11_lock fu 1 a) (f_X12_lock fu 153 a) (I c) (I (c + 1))
def Q_rules (fu : Nat) (I : Nat → St → Prop) : Prop := ∀ c, c < 64 → J2 (f_X11_rules fu 1) (f_X12_rules fu 153) (I c) (I (c + 1))
def Q_shares (fu : Nat) (I : Nat → St → Prop) : Prop := ∀ c, c < 64 → J2 (f_X11_shares fu 1) (f_X12_shares fu 153) (I c) (I (c + 1))
def Q_fault (fu : Nat) (I : Nat → St → Prop) : Prop := ∀ c, c < 64 → J2 (f_X11_fault fu 1) (f_X12_fault fu 153) (I c) (I (c + 1))
def Q_tracks (fu : Nat) (I : Nat → St → Prop) : Prop := ∀ c, c < 64 → ∀ a b d e : Int32, J2 (f_X11_tracks fu 1 a b d e) (f_X12_tracks fu 153 a b d e) (I c) (I (c + 1))
def Q_go (fu : Nat) (I : Nat → St → Prop) : Prop := ∀ c, c < 64 → ∀ a : Int32, J2 (f_X11_go fu 1 a) (f_X12_go fu 153 a) (I c) (I (c + 1))
def Q_play (fu : Nat) (I : Nat → St → Prop) : Prop := ∀ c, c < 64 → ∀ a b d : Int32, J2 (f_X11_play fu 1 a b d) (f_X12_play fu 153 a b d) (I c) (I (c + 1))
def Q_of (fu : Nat) (I : Nat → St → Prop) : Prop := ∀ c, c < 64 → ∀ a b : Int32, J2 (f_X11_of fu 1 a b) (f_X12_of fu 153 a b) (I c) (I (c + 1))
def Q_level (fu : Nat) (I : Nat → St → Prop) : Prop := ∀ c, c < 64 → ∀ a b : Int32, J2 (f_X11_level fu 1 a b) (f_X12_level fu 153 a b) (I c) (I (c + 1))
def Q_out (fu : Nat) (I : Nat → St → Prop) : Prop := ∀ c, c < 64 → ∀ a : Int32, J2 (f_X11_out fu 1 a) (f_X12_out fu 153 a) (I c) (I (c + 1))
def Q_patch (fu : Nat) (I : Nat → St → Prop) : Prop := ∀ c, c < 64 → ∀ a b d : Int32, J2 (f_X11_patch fu 1 a b d) (f_X12_patch fu 153 a b d) (I c) (I (c + 1))
def Q_grand (fu : Nat) (I : Nat → St → Prop) : Prop := ∀ c, c < 64 → ∀ a : Int32, J2 (f_X11_grand fu 1 a) (f_X12_grand fu 153 a) (I c) (I (c + 1))
def Q_wire (fu : Nat) (I : Nat → St → Prop) : Prop := ∀ c, c < 64 → ∀ a : Int32, J2 (f_X11_wire fu 1 a) (f_X12_wire fu 153 a) (I c) (I (c + 1))
def Q_axis (fu : Nat) (I : Nat → St → Prop) : Prop := ∀ c, c < 64 → ∀ a b d e f : Int32, J2 (f_X11_axis fu 1 a b d e f) (f_X12_axis fu 153 a b d e f) (I c) (I (c + 1))
def Q_to (fu : Nat) (I : Nat → St → Prop) : Prop := ∀ c, c < 64 → ∀ a b : Int32, J2 (f_X11_to fu 1 a b) (f_X12_to fu 153 a b) (I c) (I (c + 1))
def Q_axisAt (fu : Nat) (I : Nat → St → Prop) : Prop := ∀ c, c < 64 → ∀ a b : Int32, J2 (f_X11_axisAt fu 1 a b) (f_X12_axisAt fu 153 a b) (I c) (I (c + 1))
def Q_faults (fu : Nat) (I : Nat → St → Prop) : Prop := ∀ c, c < 64 → ∀ a b : Int32, J2 (f_X11_faults fu 1 a b) (f_X12_faults fu 153 a b) (I c) (I (c + 1))
def Q_stop (fu : Nat) (I : Nat → St → Prop) : Prop := ∀ c, c < 64 → ∀ v : Int32, v = 0 ∨ v = 1 → J2V (f_X11_stop fu 1 v) (f_X12_stop fu 153 v) (I c) (I (c + 1))
def Q_event (fu : Nat) (I : Nat → St → Prop) : Prop := ∀ c, c < 64 → ∀ (a v : Int32), v = 0 ∨ v = 1 → J2 (f_X11_event fu 1 a v) (f_X12_event fu 153 a v) (I c) (I (c + 1))
def Q_tick (fu : Nat) (I : Nat → St → Prop) : Prop := ∀ c, c < 64 → ∀ a : Int32, J2 (f_X11_tick fu 1 a) (f_X12_tick fu 153 a) (I c) (I (c + 1))
def Q_section (fu : Nat) (I : Nat → St → Prop) : Prop := ∀ c, c < 64 → ∀ a b : Int32, J2 (f_X11_section fu 1 a b) (f_X12_section fu 153 a b) (I c) (I (c + 1))
def Q_row (fu : Nat) (I : Nat → St → Prop) : Prop := ∀ c, c < 64 → ∀ a b d : Int32, J2 (f_X11_row fu 1 a b d) (f_X12_row fu 153 a b d) (I c) (I (c + 1))
def Q_line (fu : Nat) (I : Nat → St → Prop) : Prop := ∀ c, c < 64 → ∀ (a v : Int32), v = 0 ∨ v = 1 → J2 (f_X11_line fu 1 a v) (f_X12_line fu 153 a v) (I c) (I (c + 1))
def Q_ask (fu : Nat) (I : Nat → St → Prop) : Prop := ∀ c, c < 64 → ∀ a b d e f g : Int32, J2 (f_X11_ask fu 1 a b d e f g) (f_X12_ask fu 153 a b d e f g) (I c) (I (c + 1))
def Q_hold (fu : Nat) (I : Nat → St → Prop) : Prop := ∀ c, c < 64 → ∀ a b : Int32, J2 (f_X11_hold fu 1 a b) (f_X12_hold fu 153 a b) (I c) (I (c + 1))
def Q_pay (fu : Nat) (I : Nat → St → Prop) : Prop := ∀ c, c < 64 → ∀ a b : Int32, J2 (f_X11_pay fu 1 a b) (f_X12_pay fu 153 a b) (I c) (I (c + 1))
def Q_give (fu : Nat) (I : Nat → St → Prop) : Prop := ∀ c, c < 64 → ∀ a : Int32, J2 (f_X11_give fu 1 a) (f_X12_give fu 153 a) (I c) (I (c + 1))
def Q_back (fu : Nat) (I : Nat → St → Prop) : Prop := ∀ c, c < 64 → ∀ a b : Int32, J2 (f_X11_back fu 1 a b) (f_X12_back fu 153 a b) (I c) (I (c + 1))
def Q_enter (fu : Nat) (I : Nat → St → Prop) : Prop := ∀ c, c < 64 → ∀ a : Int32, J2 (f_X11_enter fu 1 a) (f_X12_enter fu 153 a) (I c) (I (c + 1))
def Q_seat (fu : Nat) (I : Nat → St → Prop) : Prop := ∀ c, c < 64 → ∀ a b : Int32, J2 (f_X11_seat fu 1 a b) (f_X12_seat fu 153 a b) (I c) (I (c + 1))
def Q_told (fu : Nat) (I : Nat → St → Prop) : Prop := ∀ c, c < 64 → ∀ a : Int32, J2 (f_X11_told fu 1 a) (f_X12_told fu 153 a) (I c) (I (c + 1))
def Q_share (fu : Nat) (I : Nat → St → Prop) : Prop := ∀ c, c < 64 → ∀ a b : Int32, J2L (f_X11_share fu 1 a b) (f_X12_share fu 153 a b) (I c) (I (c + 1))
def Q_way (fu : Nat) (I : Nat → St → Prop) : Prop := ∀ c, c < 64 → ∀ a b d e : Int32, J2 (f_X11_way fu 1 a b d e) (f_X12_way fu 153 a b d e) (I c) (I (c + 1))
def Q_crowd (fu : Nat) (I : Nat → St → Prop) : Prop := ∀ c, c < 64 → ∀ a b : Int32, J2 (f_X11_crowd fu 1 a b) (f_X12_crowd fu 153 a b) (I c) (I (c + 1))
def Q_clearWays (fu : Nat) (I : Nat → St → Prop) : Prop := ∀ c, c < 64 → J2V (f_X11_clearWays fu 1) (f_X12_clearWays fu 153) (I c) (I (c + 1))
def Q_empty (fu : Nat) (I : Nat → St → Prop) : Prop := ∀ c, c < 64 → J2 (f_X11_empty fu 1) (f_X12_empty fu 153) (I c) (I (c + 1))
def StepsOK (fu : Nat) (I : Nat → St → Prop) : Prop := (∀ c st, c < 64 → I c st → I (c + 1) st) ∧ Q_feed fu I ∧ Q_cut fu I ∧ Q_list fu I ∧ Q_lock fu I ∧ Q_rules fu I ∧ Q_shares fu I ∧ Q_fault fu I ∧ Q_tracks fu I ∧ Q_go fu I ∧ Q_play fu I ∧ Q_of fu I ∧ Q_level fu I ∧ Q_out fu I ∧ Q_patch fu I ∧ Q_grand fu I ∧ Q_wire fu I ∧ Q_axis fu I ∧ Q_to fu I ∧ Q_axisAt fu I ∧ Q_faults fu I ∧ Q_stop fu I ∧ Q_event fu I ∧ Q_tick fu I ∧ Q_section fu I ∧ Q_row fu I ∧ Q_line fu I ∧ Q_ask fu I ∧ Q_hold fu I ∧ Q_pay fu I ∧ Q_give fu I ∧ Q_back fu I ∧ Q_enter fu I ∧ Q_seat fu I ∧ Q_told fu I ∧ Q_share fu I ∧ Q_way fu I ∧ Q_crowd fu I ∧ Q_clearWays fu I ∧ Q_empty fu I
theorem inb_s {i L k : Nat} (hk : k ≤ 6) (hL : L ≤ 448) (h : i + 7 ≤ L) : inb (nI i + nI k) L := by
  rw [nI_add]
  exact inb_of (m := nI (L - 1)) (nI_pos' (by omega)) (nI_le (by omega) (by omega)) (by rw [nI_toInt (by omega)]; omega)
theorem lg_cmp_rf (x : Int64) : lg_cmp x x = 0 := by unfold lg_cmp; simp
set_option maxHeartbeats 4000000 in
set_option maxRecDepth 100000 in
theorem law_pure {fu : Nat} {I : Nat → St → Prop} (hS : StepsOK fu I) {xs : Nat → Int32} {L : Nat} (hL : L ≤ 448) : ∀ (F c : Nat) (st : St), 7 * c ≤ L → I c st → L < 7 * c + 7 * F → b_L_law_18 fu xs L F 0 1 153 (nI (7 * c)) st = some 1 := by
  intro F
  induction F with
  | zero => intro c st h1 _ h2; omega
  | succ F ih =>
    intro c st h1 hI h2
    show b_L_law_18_b fu xs L (b_L_law_18 fu xs L F) 0 1 153 (nI (7 * c)) st = some 1
    unfold b_L_law_18_b
    have eL : (Int32.ofNat L - 7).toInt = (L : Int) - 7 := pk_sub_toInt (a := L) (b := 7) (by omega) (by omega)
    have ei : (nI (7 * c)).toInt = ((7 * c : Nat) : Int) := nI_toInt (by omega)
    rcases Nat.lt_or_ge L (7 * c + 7) with hx | hx
    · rw [if_pos (by rw [i32_lt, eL, ei]; omega)]
    · rw [if_neg (by rw [i32_lt, eL, ei]; omega)]
      have hc : c < 64 := by omega
      have b0 : inb (nI (7 * c)) L := by have := inb_s (i := 7 * c) (k := 0) (by omega) hL (by omega); rw [nI_add] at this; exact this
      have b1 : inb (nI (7 * c) + 1) L := inb_s (k := 1) (by omega) hL (by omega)
      have b2 : inb (nI (7 * c) + 2) L := inb_s (k := 2) (by omega) hL (by omega)
      have b3 : inb (nI (7 * c) + 3) L := inb_s (k := 3) (by omega) hL (by omega)
      have b4 : inb (nI (7 * c) + 4) L := inb_s (k := 4) (by omega) hL (by omega)
      have b5 : inb (nI (7 * c) + 5) L := inb_s (k := 5) (by omega) hL (by omega)
      have b6 : inb (nI (7 * c) + 6) L := inb_s (k := 6) (by omega) hL (by omega)
      have k1 : (kd 1).1 = 11 := rfl
      have k2 : (kd 153).1 = 12 := rfl
      have go : ∀ s, I (c + 1) s → b_L_law_1488 fu xs L (b_L_law_18 fu xs L F) 0 1 153 (nI (7 * c)) s = some 1 := fun s hs => by
        have e7 : nI (7 * c) + 7 = nI (7 * (c + 1)) := by
          have := nI_add (7 * c) 7
          rw [show 7 * (c + 1) = 7 * c + 7 by omega]; exact this
        show b_L_law_18 fu xs L F 0 1 153 (nI (7 * c) + 7) s = some 1
        rw [e7]
        exact ih (c + 1) s (by omega) hs (by omega)
      rw [ck_t b0, bd_e]
      generalize xs (ix (nI (7 * c))) &&& 63 = v
      by_cases h0 : v = 0
      · rw [if_pos h0]
        obtain ⟨r, u, w, e1, e2, e3⟩ := hS.2.1 c hc (xs (ix (nI (7 * c) + 1))) (xs (ix (nI (7 * c) + 2))) (xs (ix (nI (7 * c) + 3))) (xs (ix (nI (7 * c) + 4))) (xs (ix (nI (7 * c) + 5))) st hI
        simp only [ck, if_pos b1, if_pos b2, if_pos b3, if_pos b4, if_pos b5, if_pos b6, if_pos k1, if_pos k2, e1, e2, ca_s, if_true]
        exact go w e3
      rw [if_neg h0]
      by_cases h1 : v = 1
      · rw [if_pos h1]
        obtain ⟨r, u, w, e1, e2, e3⟩ := hS.2.2.1 c hc (xs (ix (nI (7 * c) + 1))) st hI
        simp only [ck, if_pos b1, if_pos b2, if_pos b3, if_pos b4, if_pos b5, if_pos b6, if_pos k1, if_pos k2, e1, e2, ca_s, if_true]
        exact go w e3
      rw [if_neg h1]
      by_cases h2 : v = 2
      · rw [if_pos h2]
        obtain ⟨r, u, w, e1, e2, e3⟩ := hS.2.2.2.1 c hc (xs (ix (nI (7 * c) + 1))) st hI
        simp only [ck, if_pos b1, if_pos b2, if_pos b3, if_pos b4, if_pos b5, if_pos b6, if_pos k1, if_pos k2, e1, e2, ca_s, if_true]
        exact go w e3
      rw [if_neg h2]
      by_cases h3 : v = 3
      · rw [if_pos h3]
        obtain ⟨r, u, w, e1, e2, e3⟩ := hS.2.2.2.2.1 c hc (xs (ix (nI (7 * c) + 1))) st hI
        simp only [ck, if_pos b1, if_pos b2, if_pos b3, if_pos b4, if_pos b5, if_pos b6, if_pos k1, if_pos k2, e1, e2, ca_s, if_true]
        exact go w e3
      rw [if_neg h3]
      by_cases h4 : v = 4
      · rw [if_pos h4]
        obtain ⟨r, u, w, e1, e2, e3⟩ := hS.2.2.2.2.2.1 c hc st hI
        simp only [ck, if_pos b1, if_pos b2, if_pos b3, if_pos b4, if_pos b5, if_pos b6, if_pos k1, if_pos k2, e1, e2, ca_s, if_true]
        exact go w e3
      rw [if_neg h4]
      by_cases h5 : v = 5
      · rw [if_pos h5]
        obtain ⟨r, u, w, e1, e2, e3⟩ := hS.2.2.2.2.2.2.1 c hc st hI
        simp only [ck, if_pos b1, if_pos b2, if_pos b3, if_pos b4, if_pos b5, if_pos b6, if_pos k1, if_pos k2, e1, e2, ca_s, if_true]
        exact go w e3
      rw [if_neg h5]
      by_cases h6 : v = 6
      · rw [if_pos h6]
        obtain ⟨r, u, w, e1, e2, e3⟩ := hS.2.2.2.2.2.2.2.1 c hc st hI
        simp only [ck, if_pos b1, if_pos b2, if_pos b3, if_pos b4, if_pos b5, if_pos b6, if_pos k1, if_pos k2, e1, e2, ca_s, if_true]
        exact go w e3
      rw [if_neg h6]
      by_cases h7 : v = 7
      · rw [if_pos h7]
        obtain ⟨r, u, w, e1, e2, e3⟩ := hS.2.2.2.2.2.2.2.2.1 c hc (xs (ix (nI (7 * c) + 1))) (xs (ix (nI (7 * c) + 2))) (xs (ix (nI (7 * c) + 3))) (xs (ix (nI (7 * c) + 4))) st hI
        simp only [ck, if_pos b1, if_pos b2, if_pos b3, if_pos b4, if_pos b5, if_pos b6, if_pos k1, if_pos k2, e1, e2, ca_s, if_true]
        exact go w e3
      rw [if_neg h7]
      by_cases h8 : v = 8
      · rw [if_pos h8]
        obtain ⟨r, u, w, e1, e2, e3⟩ := hS.2.2.2.2.2.2.2.2.2.1 c hc (xs (ix (nI (7 * c) + 1))) st hI
        simp only [ck, if_pos b1, if_pos b2, if_pos b3, if_pos b4, if_pos b5, if_pos b6, if_pos k1, if_pos k2, e1, e2, ca_s, if_true]
        exact go w e3
      rw [if_neg h8]
      by_cases h9 : v = 9
      · rw [if_pos h9]
        obtain ⟨r, u, w, e1, e2, e3⟩ := hS.2.2.2.2.2.2.2.2.2.2.1 c hc (xs (ix (nI (7 * c) + 1))) (xs (ix (nI (7 * c) + 2))) (xs (ix (nI (7 * c) + 3))) st hI
        simp only [ck, if_pos b1, if_pos b2, if_pos b3, if_pos b4, if_pos b5, if_pos b6, if_pos k1, if_pos k2, e1, e2, ca_s, if_true]
        exact go w e3
      rw [if_neg h9]
      by_cases h10 : v = 10
      · rw [if_pos h10]
        obtain ⟨r, u, w, e1, e2, e3⟩ := hS.2.2.2.2.2.2.2.2.2.2.2.1 c hc (xs (ix (nI (7 * c) + 1))) (xs (ix (nI (7 * c) + 2))) st hI
        simp only [ck, if_pos b1, if_pos b2, if_pos b3, if_pos b4, if_pos b5, if_pos b6, if_pos k1, if_pos k2, e1, e2, ca_s, if_true]
        exact go w e3
      rw [if_neg h10]
      by_cases h11 : v = 11
      · rw [if_pos h11]
        obtain ⟨r, u, w, e1, e2, e3⟩ := hS.2.2.2.2.2.2.2.2.2.2.2.2.1 c hc (xs (ix (nI (7 * c) + 1))) (xs (ix (nI (7 * c) + 2))) st hI
        simp only [ck, if_pos b1, if_pos b2, if_pos b3, if_pos b4, if_pos b5, if_pos b6, if_pos k1, if_pos k2, e1, e2, ca_s, if_true]
        exact go w e3
      rw [if_neg h11]
      by_cases h12 : v = 12
      · rw [if_pos h12]
        obtain ⟨r, u, w, e1, e2, e3⟩ := hS.2.2.2.2.2.2.2.2.2.2.2.2.2.1 c hc (xs (ix (nI (7 * c) + 1))) st hI
        simp only [ck, if_pos b1, if_pos b2, if_pos b3, if_pos b4, if_pos b5, if_pos b6, if_pos k1, if_pos k2, e1, e2, ca_s, if_true]
        exact go w e3
      rw [if_neg h12]
      by_cases h13 : v = 13
      · rw [if_pos h13]
        obtain ⟨r, u, w, e1, e2, e3⟩ := hS.2.2.2.2.2.2.2.2.2.2.2.2.2.2.1 c hc (xs (ix (nI (7 * c) + 1))) (xs (ix (nI (7 * c) + 2))) (xs (ix (nI (7 * c) + 3))) st hI
        simp only [ck, if_pos b1, if_pos b2, if_pos b3, if_pos b4, if_pos b5, if_pos b6, if_pos k1, if_pos k2, e1, e2, ca_s, if_true]
        exact go w e3
      rw [if_neg h13]
      by_cases h14 : v = 14
      · rw [if_pos h14]
        obtain ⟨r, u, w, e1, e2, e3⟩ := hS.2.2.2.2.2.2.2.2.2.2.2.2.2.2.2.1 c hc (xs (ix (nI (7 * c) + 1))) st hI
        simp only [ck, if_pos b1, if_pos b2, if_pos b3, if_pos b4, if_pos b5, if_pos b6, if_pos k1, if_pos k2, e1, e2, ca_s, if_true]
        exact go w e3
      rw [if_neg h14]
      by_cases h15 : v = 15
      · rw [if_pos h15]
        obtain ⟨r, u, w, e1, e2, e3⟩ := hS.2.2.2.2.2.2.2.2.2.2.2.2.2.2.2.2.1 c hc (xs (ix (nI (7 * c) + 1))) st hI
        simp only [ck, if_pos b1, if_pos b2, if_pos b3, if_pos b4, if_pos b5, if_pos b6, if_pos k1, if_pos k2, e1, e2, ca_s, if_true]
        exact go w e3
      rw [if_neg h15]
      by_cases h16 : v = 16
      · rw [if_pos h16]
        obtain ⟨r, u, w, e1, e2, e3⟩ := hS.2.2.2.2.2.2.2.2.2.2.2.2.2.2.2.2.2.1 c hc (xs (ix (nI (7 * c) + 1))) (xs (ix (nI (7 * c) + 2))) (xs (ix (nI (7 * c) + 3))) (xs (ix (nI (7 * c) + 4))) (xs (ix (nI (7 * c) + 5))) st hI
        simp only [ck, if_pos b1, if_pos b2, if_pos b3, if_pos b4, if_pos b5, if_pos b6, if_pos k1, if_pos k2, e1, e2, ca_s, if_true]
        exact go w e3
      rw [if_neg h16]
      by_cases h17 : v = 17
      · rw [if_pos h17]
        obtain ⟨r, u, w, e1, e2, e3⟩ := hS.2.2.2.2.2.2.2.2.2.2.2.2.2.2.2.2.2.2.1 c hc (xs (ix (nI (7 * c) + 1))) (xs (ix (nI (7 * c) + 2))) st hI
        simp only [ck, if_pos b1, if_pos b2, if_pos b3, if_pos b4, if_pos b5, if_pos b6, if_pos k1, if_pos k2, e1, e2, ca_s, if_true]
        exact go w e3
      rw [if_neg h17]
      by_cases h18 : v = 18
      · rw [if_pos h18]
        obtain ⟨r, u, w, e1, e2, e3⟩ := hS.2.2.2.2.2.2.2.2.2.2.2.2.2.2.2.2.2.2.2.1 c hc (xs (ix (nI (7 * c) + 1))) (xs (ix (nI (7 * c) + 2))) st hI
        simp only [ck, if_pos b1, if_pos b2, if_pos b3, if_pos b4, if_pos b5, if_pos b6, if_pos k1, if_pos k2, e1, e2, ca_s, if_true]
        exact go w e3
      rw [if_neg h18]
      by_cases h19 : v = 19
      · rw [if_pos h19]
        obtain ⟨r, u, w, e1, e2, e3⟩ := hS.2.2.2.2.2.2.2.2.2.2.2.2.2.2.2.2.2.2.2.2.1 c hc (xs (ix (nI (7 * c) + 1))) (xs (ix (nI (7 * c) + 2))) st hI
        simp only [ck, if_pos b1, if_pos b2, if_pos b3, if_pos b4, if_pos b5, if_pos b6, if_pos k1, if_pos k2, e1, e2, ca_s, if_true]
        exact go w e3
      rw [if_neg h19]
      by_cases h20 : v = 20
      · rw [if_pos h20]
        by_cases q : xs (ix (nI (7 * c) + 1)) = 0
        · obtain ⟨u, w, e1, e2, e3⟩ := hS.2.2.2.2.2.2.2.2.2.2.2.2.2.2.2.2.2.2.2.2.2.1 c hc 0 (by decide) st hI
          simp only [ck, if_pos b1, if_pos b2, if_pos b3, if_pos b4, if_pos b5, if_pos b6, if_pos k1, if_pos k2, q, if_true, if_false, b_L_law_848, b_L_law_865, e1, e2, cv_s]
          exact go w e3
        · obtain ⟨u, w, e1, e2, e3⟩ := hS.2.2.2.2.2.2.2.2.2.2.2.2.2.2.2.2.2.2.2.2.2.1 c hc 1 (by decide) st hI
          simp only [ck, if_pos b1, if_pos b2, if_pos b3, if_pos b4, if_pos b5, if_pos b6, if_pos k1, if_pos k2, q, if_true, if_false, b_L_law_848, b_L_law_865, e1, e2, cv_s]
          exact go w e3
      rw [if_neg h20]
      by_cases h21 : v = 21
      · rw [if_pos h21]
        by_cases q : xs (ix (nI (7 * c) + 2)) = 0
        · obtain ⟨r, u, w, e1, e2, e3⟩ := hS.2.2.2.2.2.2.2.2.2.2.2.2.2.2.2.2.2.2.2.2.2.2.1 c hc (xs (ix (nI (7 * c) + 1))) 0 (by decide) st hI
          simp only [ck, if_pos b1, if_pos b2, if_pos b3, if_pos b4, if_pos b5, if_pos b6, if_pos k1, if_pos k2, q, if_true, if_false, b_L_law_890, b_L_law_912, e1, e2, ca_s]
          exact go w e3
        · obtain ⟨r, u, w, e1, e2, e3⟩ := hS.2.2.2.2.2.2.2.2.2.2.2.2.2.2.2.2.2.2.2.2.2.2.1 c hc (xs (ix (nI (7 * c) + 1))) 1 (by decide) st hI
          simp only [ck, if_pos b1, if_pos b2, if_pos b3, if_pos b4, if_pos b5, if_pos b6, if_pos k1, if_pos k2, q, if_true, if_false, b_L_law_890, b_L_law_912, e1, e2, ca_s]
          exact go w e3
      rw [if_neg h21]
      by_cases h22 : v = 22
      · rw [if_pos h22]
        obtain ⟨r, u, w, e1, e2, e3⟩ := hS.2.2.2.2.2.2.2.2.2.2.2.2.2.2.2.2.2.2.2.2.2.2.2.1 c hc (xs (ix (nI (7 * c) + 1))) st hI
        simp only [ck, if_pos b1, if_pos b2, if_pos b3, if_pos b4, if_pos b5, if_pos b6, if_pos k1, if_pos k2, e1, e2, ca_s, if_true]
        exact go w e3
      rw [if_neg h22]
      by_cases h23 : v = 23
      · rw [if_pos h23]
        obtain ⟨r, u, w, e1, e2, e3⟩ := hS.2.2.2.2.2.2.2.2.2.2.2.2.2.2.2.2.2.2.2.2.2.2.2.2.1 c hc (xs (ix (nI (7 * c) + 1))) (xs (ix (nI (7 * c) + 2))) st hI
        simp only [ck, if_pos b1, if_pos b2, if_pos b3, if_pos b4, if_pos b5, if_pos b6, if_pos k1, if_pos k2, e1, e2, ca_s, if_true]
        exact go w e3
      rw [if_neg h23]
      by_cases h24 : v = 24
      · rw [if_pos h24]
        obtain ⟨r, u, w, e1, e2, e3⟩ := hS.2.2.2.2.2.2.2.2.2.2.2.2.2.2.2.2.2.2.2.2.2.2.2.2.2.1 c hc (xs (ix (nI (7 * c) + 1))) (xs (ix (nI (7 * c) + 2))) (xs (ix (nI (7 * c) + 3))) st hI
        simp only [ck, if_pos b1, if_pos b2, if_pos b3, if_pos b4, if_pos b5, if_pos b6, if_pos k1, if_pos k2, e1, e2, ca_s, if_true]
        exact go w e3
      rw [if_neg h24]
      by_cases h25 : v = 25
      · rw [if_pos h25]
        by_cases q : xs (ix (nI (7 * c) + 2)) = 0
        · obtain ⟨r, u, w, e1, e2, e3⟩ := hS.2.2.2.2.2.2.2.2.2.2.2.2.2.2.2.2.2.2.2.2.2.2.2.2.2.2.1 c hc (xs (ix (nI (7 * c) + 1))) 0 (by decide) st hI
          simp only [ck, if_pos b1, if_pos b2, if_pos b3, if_pos b4, if_pos b5, if_pos b6, if_pos k1, if_pos k2, q, if_true, if_false, b_L_law_1038, b_L_law_1060, e1, e2, ca_s]
          exact go w e3
        · obtain ⟨r, u, w, e1, e2, e3⟩ := hS.2.2.2.2.2.2.2.2.2.2.2.2.2.2.2.2.2.2.2.2.2.2.2.2.2.2.1 c hc (xs (ix (nI (7 * c) + 1))) 1 (by decide) st hI
          simp only [ck, if_pos b1, if_pos b2, if_pos b3, if_pos b4, if_pos b5, if_pos b6, if_pos k1, if_pos k2, q, if_true, if_false, b_L_law_1038, b_L_law_1060, e1, e2, ca_s]
          exact go w e3
      rw [if_neg h25]
      by_cases h26 : v = 26
      · rw [if_pos h26]
        obtain ⟨r, u, w, e1, e2, e3⟩ := hS.2.2.2.2.2.2.2.2.2.2.2.2.2.2.2.2.2.2.2.2.2.2.2.2.2.2.2.1 c hc (xs (ix (nI (7 * c) + 1))) (xs (ix (nI (7 * c) + 2))) (xs (ix (nI (7 * c) + 3))) (xs (ix (nI (7 * c) + 4))) (xs (ix (nI (7 * c) + 5))) (xs (ix (nI (7 * c) + 6))) st hI
        simp only [ck, if_pos b1, if_pos b2, if_pos b3, if_pos b4, if_pos b5, if_pos b6, if_pos k1, if_pos k2, e1, e2, ca_s, if_true]
        exact go w e3
      rw [if_neg h26]
      by_cases h27 : v = 27
      · rw [if_pos h27]
        obtain ⟨r, u, w, e1, e2, e3⟩ := hS.2.2.2.2.2.2.2.2.2.2.2.2.2.2.2.2.2.2.2.2.2.2.2.2.2.2.2.2.1 c hc (xs (ix (nI (7 * c) + 1))) (xs (ix (nI (7 * c) + 2))) st hI
        simp only [ck, if_pos b1, if_pos b2, if_pos b3, if_pos b4, if_pos b5, if_pos b6, if_pos k1, if_pos k2, e1, e2, ca_s, if_true]
        exact go w e3
      rw [if_neg h27]
      by_cases h28 : v = 28
      · rw [if_pos h28]
        obtain ⟨r, u, w, e1, e2, e3⟩ := hS.2.2.2.2.2.2.2.2.2.2.2.2.2.2.2.2.2.2.2.2.2.2.2.2.2.2.2.2.2.1 c hc (xs (ix (nI (7 * c) + 1))) (xs (ix (nI (7 * c) + 2))) st hI
        simp only [ck, if_pos b1, if_pos b2, if_pos b3, if_pos b4, if_pos b5, if_pos b6, if_pos k1, if_pos k2, e1, e2, ca_s, if_true]
        exact go w e3
      rw [if_neg h28]
      by_cases h29 : v = 29
      · rw [if_pos h29]
        obtain ⟨r, u, w, e1, e2, e3⟩ := hS.2.2.2.2.2.2.2.2.2.2.2.2.2.2.2.2.2.2.2.2.2.2.2.2.2.2.2.2.2.2.1 c hc (xs (ix (nI (7 * c) + 1))) st hI
        simp only [ck, if_pos b1, if_pos b2, if_pos b3, if_pos b4, if_pos b5, if_pos b6, if_pos k1, if_pos k2, e1, e2, ca_s, if_true]
        exact go w e3
      rw [if_neg h29]
      by_cases h30 : v = 30
      · rw [if_pos h30]
        obtain ⟨r, u, w, e1, e2, e3⟩ := hS.2.2.2.2.2.2.2.2.2.2.2.2.2.2.2.2.2.2.2.2.2.2.2.2.2.2.2.2.2.2.2.1 c hc (xs (ix (nI (7 * c) + 1))) (xs (ix (nI (7 * c) + 2))) st hI
        simp only [ck, if_pos b1, if_pos b2, if_pos b3, if_pos b4, if_pos b5, if_pos b6, if_pos k1, if_pos k2, e1, e2, ca_s, if_true]
        exact go w e3
      rw [if_neg h30]
      by_cases h31 : v = 31
      · rw [if_pos h31]
        obtain ⟨r, u, w, e1, e2, e3⟩ := hS.2.2.2.2.2.2.2.2.2.2.2.2.2.2.2.2.2.2.2.2.2.2.2.2.2.2.2.2.2.2.2.2.1 c hc (xs (ix (nI (7 * c) + 1))) st hI
        simp only [ck, if_pos b1, if_pos b2, if_pos b3, if_pos b4, if_pos b5, if_pos b6, if_pos k1, if_pos k2, e1, e2, ca_s, if_true]
        exact go w e3
      rw [if_neg h31]
      by_cases h32 : v = 32
      · rw [if_pos h32]
        obtain ⟨r, u, w, e1, e2, e3⟩ := hS.2.2.2.2.2.2.2.2.2.2.2.2.2.2.2.2.2.2.2.2.2.2.2.2.2.2.2.2.2.2.2.2.2.1 c hc (xs (ix (nI (7 * c) + 1))) (xs (ix (nI (7 * c) + 2))) st hI
        simp only [ck, if_pos b1, if_pos b2, if_pos b3, if_pos b4, if_pos b5, if_pos b6, if_pos k1, if_pos k2, e1, e2, ca_s, if_true]
        exact go w e3
      rw [if_neg h32]
      by_cases h33 : v = 33
      · rw [if_pos h33]
        obtain ⟨r, u, w, e1, e2, e3⟩ := hS.2.2.2.2.2.2.2.2.2.2.2.2.2.2.2.2.2.2.2.2.2.2.2.2.2.2.2.2.2.2.2.2.2.2.1 c hc (xs (ix (nI (7 * c) + 1))) st hI
        simp only [ck, if_pos b1, if_pos b2, if_pos b3, if_pos b4, if_pos b5, if_pos b6, if_pos k1, if_pos k2, e1, e2, ca_s, if_true]
        exact go w e3
      rw [if_neg h33]
      by_cases h34 : v = 34
      · rw [if_pos h34]
        obtain ⟨r, u, w, e1, e2, e3⟩ := hS.2.2.2.2.2.2.2.2.2.2.2.2.2.2.2.2.2.2.2.2.2.2.2.2.2.2.2.2.2.2.2.2.2.2.2.1 c hc (xs (ix (nI (7 * c) + 1))) (xs (ix (nI (7 * c) + 2))) st hI
        simp only [ck, if_pos b1, if_pos b2, if_pos b3, if_pos b4, if_pos b5, if_pos b6, if_pos k1, if_pos k2, e1, e2, ca_s, lg_cmp_rf, if_true]
        exact go w e3
      rw [if_neg h34]
      by_cases h35 : v = 35
      · rw [if_pos h35]
        obtain ⟨r, u, w, e1, e2, e3⟩ := hS.2.2.2.2.2.2.2.2.2.2.2.2.2.2.2.2.2.2.2.2.2.2.2.2.2.2.2.2.2.2.2.2.2.2.2.2.1 c hc (xs (ix (nI (7 * c) + 1))) (xs (ix (nI (7 * c) + 2))) (xs (ix (nI (7 * c) + 3))) (xs (ix (nI (7 * c) + 4))) st hI
        simp only [ck, if_pos b1, if_pos b2, if_pos b3, if_pos b4, if_pos b5, if_pos b6, if_pos k1, if_pos k2, e1, e2, ca_s, if_true]
        exact go w e3
      rw [if_neg h35]
      by_cases h36 : v = 36
      · rw [if_pos h36]
        obtain ⟨r, u, w, e1, e2, e3⟩ := hS.2.2.2.2.2.2.2.2.2.2.2.2.2.2.2.2.2.2.2.2.2.2.2.2.2.2.2.2.2.2.2.2.2.2.2.2.2.1 c hc (xs (ix (nI (7 * c) + 1))) (xs (ix (nI (7 * c) + 2))) st hI
        simp only [ck, if_pos b1, if_pos b2, if_pos b3, if_pos b4, if_pos b5, if_pos b6, if_pos k1, if_pos k2, e1, e2, ca_s, if_true]
        exact go w e3
      rw [if_neg h36]
      by_cases h37 : v = 37
      · rw [if_pos h37]
        obtain ⟨u, w, e1, e2, e3⟩ := hS.2.2.2.2.2.2.2.2.2.2.2.2.2.2.2.2.2.2.2.2.2.2.2.2.2.2.2.2.2.2.2.2.2.2.2.2.2.2.1 c hc st hI
        simp only [ck, if_pos b1, if_pos b2, if_pos b3, if_pos b4, if_pos b5, if_pos b6, if_pos k1, if_pos k2, e1, e2, cv_s, if_true]
        exact go w e3
      rw [if_neg h37]
      by_cases h38 : v = 38
      · rw [if_pos h38]
        obtain ⟨r, u, w, e1, e2, e3⟩ := hS.2.2.2.2.2.2.2.2.2.2.2.2.2.2.2.2.2.2.2.2.2.2.2.2.2.2.2.2.2.2.2.2.2.2.2.2.2.2.2 c hc st hI
        simp only [ck, if_pos b1, if_pos b2, if_pos b3, if_pos b4, if_pos b5, if_pos b6, if_pos k1, if_pos k2, e1, e2, ca_s, if_true]
        exact go w e3
      rw [if_neg h38]
      exact go st (hS.1 c st hc hI)
