/-! PURE: the simple calls, class and reference -/
theorem i32_le {a b : Int32} : a ≤ b ↔ a.toInt ≤ b.toInt := Int32.le_iff_toInt_le
theorem i32_lt {a b : Int32} : a < b ↔ a.toInt < b.toInt := Int32.lt_iff_toInt_lt
theorem ix_int {a : Int32} (h : 0 ≤ a) : (ix a : Int) = a.toInt := by
  have h1 : (0 : Int) ≤ a.toInt := by simpa using i32_le.mp h
  show ((a.toInt.toNat : Nat) : Int) = a.toInt
  omega
theorem inb_of {a m : Int32} {n : Nat} (h0 : 0 ≤ a) (h1 : a ≤ m) (hm : m.toInt < n) : inb a n := by
  intro h
  rcases h with h | h
  · have := i32_lt.mp h; have := i32_le.mp h0; omega
  · have h2 := ix_int h0
    have h3 := i32_le.mp h1
    have h4 : n ≤ ix a := h
    omega
theorem nlt_of_le {a b : Int32} (h : a ≤ b) : ¬ b < a := by rw [i32_lt]; rw [i32_le] at h; omega
theorem lt_of_nle {a b : Int32} (h : ¬ a ≤ b) : b < a := by rw [i32_lt]; rw [i32_le] at h; omega
theorem within_eq (fu : Nat) (p a b : Int32) (st : St) : f_X11_within fu p a b st = some (if a ≤ p ∧ p ≤ b then 1 else 0, st) := by
  unfold f_X11_within
  by_cases h1 : a ≤ p
  · by_cases h2 : p ≤ b
    · rw [if_neg (nlt_of_le h1), if_neg (nlt_of_le h2), if_pos ⟨h1, h2⟩]; rfl
    · rw [if_neg (nlt_of_le h1), if_pos (lt_of_nle h2), if_neg (fun q => h2 q.2)]; rfl
  · rw [if_pos (lt_of_nle h1), if_neg (fun q => h1 q.1)]; rfl
theorem ixl {a m : Int32} {n : Nat} (h0 : 0 ≤ a) (h1 : a ≤ m) (hm : m.toInt < n) : a.toNatClampNeg < n := by
  have h2 := ix_int h0
  have h3 := i32_le.mp h1
  have h4 : (ix a : Int) < n := by omega
  exact Int.ofNat_lt.mp h4
theorem patch_c {st : St} (hT : Top st) (fu : Nat) (b c k : Int32) : f_X11_patch fu 1 b c k st = some (if 0 ≤ b ∧ b ≤ 127 ∧ 0 ≤ c ∧ c ≤ 64 ∧ 0 ≤ k ∧ k ≤ 3 then (1, sI (sI st 28 (ix b) c) 29 (ix b) k) else (0, st)) := by
  unfold f_X11_patch
  simp only [within_eq, ca_s]
  by_cases h0 : 0 ≤ b
  · by_cases h1 : b ≤ 127
    · by_cases h2 : 0 ≤ c
      · by_cases h3 : c ≤ 64
        · by_cases h4 : 0 ≤ k
          · by_cases h5 : k ≤ 3
            · have i_b := ixl (n := 128) h0 h1 (by decide)
              simp [h0, h1, h2, h3, h4, h5, i_b, bd, ck, gR_sI, nlt_of_le, tp_1_2 hT, tp_24_3 hT, tp_24_4 hT, kd_1, kd_24, kd_28, kd_29, b_X11_patch_29]
            · simp [h0, h1, h2, h3, h4, h5, lt_of_nle h5, bd, ck, gR_sI, nlt_of_le, tp_1_2 hT, tp_24_3 hT, tp_24_4 hT, kd_1, kd_24, kd_28, kd_29, b_X11_patch_29]
          · simp [h0, h1, h2, h3, h4, lt_of_nle h4, bd, ck, gR_sI, nlt_of_le, tp_1_2 hT, tp_24_3 hT, tp_24_4 hT, kd_1, kd_24, kd_28, kd_29, b_X11_patch_29]
        · simp [h0, h1, h2, h3, lt_of_nle h3, bd, ck, gR_sI, nlt_of_le, tp_1_2 hT, tp_24_3 hT, tp_24_4 hT, kd_1, kd_24, kd_28, kd_29, b_X11_patch_29]
      · simp [h0, h1, h2, lt_of_nle h2, bd, ck, gR_sI, nlt_of_le, tp_1_2 hT, tp_24_3 hT, tp_24_4 hT, kd_1, kd_24, kd_28, kd_29, b_X11_patch_29]
    · simp [h0, h1, lt_of_nle h1, bd, ck, gR_sI, nlt_of_le, tp_1_2 hT, tp_24_3 hT, tp_24_4 hT, kd_1, kd_24, kd_28, kd_29, b_X11_patch_29]
  · simp [h0, lt_of_nle h0, bd, ck, gR_sI, nlt_of_le, tp_1_2 hT, tp_24_3 hT, tp_24_4 hT, kd_1, kd_24, kd_28, kd_29, b_X11_patch_29]
theorem patch_r {st : St} (hT : Top st) (fu : Nat) (b c k : Int32) : f_X12_patch fu 153 b c k st = some (if 0 ≤ b ∧ b ≤ 127 ∧ 0 ≤ c ∧ c ≤ 64 ∧ 0 ≤ k ∧ k ≤ 3 then (1, sI (sI st 196 (ix b) c) 197 (ix b) k) else (0, st)) := by
  unfold f_X12_patch
  by_cases h0 : 0 ≤ b
  · by_cases h1 : b ≤ 127
    · by_cases h2 : 0 ≤ c
      · by_cases h3 : c ≤ 64
        · by_cases h4 : 0 ≤ k
          · by_cases h5 : k ≤ 3
            · have i_b := ixl (n := 128) h0 h1 (by decide)
              simp [h0, h1, h2, h3, h4, h5, i_b, bd, ck, gR_sI, nlt_of_le, tp_153_51 hT, tp_153_52 hT, kd_153, kd_196, kd_197, b_X12_patch_29]
            · simp [h0, h1, h2, h3, h4, h5, lt_of_nle h5, bd, ck, gR_sI, nlt_of_le, tp_153_51 hT, tp_153_52 hT, kd_153, kd_196, kd_197, b_X12_patch_29]
          · simp [h0, h1, h2, h3, h4, lt_of_nle h4, bd, ck, gR_sI, nlt_of_le, tp_153_51 hT, tp_153_52 hT, kd_153, kd_196, kd_197, b_X12_patch_29]
        · simp [h0, h1, h2, h3, lt_of_nle h3, bd, ck, gR_sI, nlt_of_le, tp_153_51 hT, tp_153_52 hT, kd_153, kd_196, kd_197, b_X12_patch_29]
      · simp [h0, h1, h2, lt_of_nle h2, bd, ck, gR_sI, nlt_of_le, tp_153_51 hT, tp_153_52 hT, kd_153, kd_196, kd_197, b_X12_patch_29]
    · simp [h0, h1, lt_of_nle h1, bd, ck, gR_sI, nlt_of_le, tp_153_51 hT, tp_153_52 hT, kd_153, kd_196, kd_197, b_X12_patch_29]
  · simp [h0, lt_of_nle h0, bd, ck, gR_sI, nlt_of_le, tp_153_51 hT, tp_153_52 hT, kd_153, kd_196, kd_197, b_X12_patch_29]
theorem grand_c {st : St} (hT : Top st) (fu : Nat) (n : Int32) : f_X11_grand fu 1 n st = some (if 0 ≤ n ∧ n ≤ 255 then (1, sI st 24 7 n) else (0, st)) := by
  unfold f_X11_grand
  simp only [within_eq, ca_s]
  by_cases h0 : 0 ≤ n
  · by_cases h1 : n ≤ 255
    · simp [h0, h1, bd, ck, gR_sI, nlt_of_le, tp_1_2 hT, kd_1, kd_24]
    · simp [h0, h1, lt_of_nle h1, bd, ck, gR_sI, nlt_of_le, tp_1_2 hT, kd_1, kd_24]
  · simp [h0, lt_of_nle h0, bd, ck, gR_sI, nlt_of_le, tp_1_2 hT, kd_1, kd_24]
theorem grand_r {st : St} (hT : Top st) (fu : Nat) (n : Int32) : f_X12_grand fu 153 n st = some (if 0 ≤ n ∧ n ≤ 255 then (1, sI st 153 53 n) else (0, st)) := by
  unfold f_X12_grand
  by_cases h0 : 0 ≤ n
  · by_cases h1 : n ≤ 255
    · simp [h0, h1, bd, ck, gR_sI, nlt_of_le, kd_153, b_X12_grand_11]
    · simp [h0, h1, lt_of_nle h1, bd, ck, gR_sI, nlt_of_le, kd_153, b_X12_grand_11]
  · simp [h0, lt_of_nle h0, bd, ck, gR_sI, nlt_of_le, kd_153, b_X12_grand_11]
theorem section_c {st : St} (hT : Top st) (fu : Nat) (s p : Int32) : f_X11_section fu 1 s p st = some (if 0 ≤ s ∧ s ≤ 7 ∧ 0 ≤ p ∧ p ≤ 99999 then (1, sI st 116 (ix s) p) else (0, st)) := by
  unfold f_X11_section
  simp only [within_eq, ca_s]
  by_cases h0 : 0 ≤ s
  · by_cases h1 : s ≤ 7
    · by_cases h2 : 0 ≤ p
      · by_cases h3 : p ≤ 99999
        · have i_s := ixl (n := 8) h0 h1 (by decide)
          simp [h0, h1, h2, h3, i_s, bd, ck, gR_sI, nlt_of_le, tp_1_3 hT, tp_115_0 hT, kd_1, kd_115, kd_116, b_X11_section_20]
        · simp [h0, h1, h2, h3, lt_of_nle h3, bd, ck, gR_sI, nlt_of_le, tp_1_3 hT, tp_115_0 hT, kd_1, kd_115, kd_116, b_X11_section_20]
      · simp [h0, h1, h2, lt_of_nle h2, bd, ck, gR_sI, nlt_of_le, tp_1_3 hT, tp_115_0 hT, kd_1, kd_115, kd_116, b_X11_section_20]
    · simp [h0, h1, lt_of_nle h1, bd, ck, gR_sI, nlt_of_le, tp_1_3 hT, tp_115_0 hT, kd_1, kd_115, kd_116, b_X11_section_20]
  · simp [h0, lt_of_nle h0, bd, ck, gR_sI, nlt_of_le, tp_1_3 hT, tp_115_0 hT, kd_1, kd_115, kd_116, b_X11_section_20]
theorem section_r {st : St} (hT : Top st) (fu : Nat) (s p : Int32) : f_X12_section fu 153 s p st = some (if 0 ≤ s ∧ s ≤ 7 ∧ 0 ≤ p ∧ p ≤ 99999 then (1, sI st 214 (ix s) p) else (0, st)) := by
  unfold f_X12_section
  by_cases h0 : 0 ≤ s
  · by_cases h1 : s ≤ 7
    · by_cases h2 : 0 ≤ p
      · by_cases h3 : p ≤ 99999
        · have i_s := ixl (n := 8) h0 h1 (by decide)
          simp [h0, h1, h2, h3, i_s, bd, ck, gR_sI, nlt_of_le, tp_153_73 hT, kd_153, kd_214, b_X12_section_21]
        · simp [h0, h1, h2, h3, lt_of_nle h3, bd, ck, gR_sI, nlt_of_le, tp_153_73 hT, kd_153, kd_214, b_X12_section_21]
      · simp [h0, h1, h2, lt_of_nle h2, bd, ck, gR_sI, nlt_of_le, tp_153_73 hT, kd_153, kd_214, b_X12_section_21]
    · simp [h0, h1, lt_of_nle h1, bd, ck, gR_sI, nlt_of_le, tp_153_73 hT, kd_153, kd_214, b_X12_section_21]
  · simp [h0, lt_of_nle h0, bd, ck, gR_sI, nlt_of_le, tp_153_73 hT, kd_153, kd_214, b_X12_section_21]
theorem event_c {st : St} (hT : Top st) (fu : Nat) (n v : Int32) (hv : v = 0 ∨ v = 1) : f_X11_event fu 1 n v st = some (if 0 ≤ n ∧ n ≤ 15 then (1, sI st 6 (ix n) v) else (0, st)) := by
  unfold f_X11_event
  simp only [within_eq, ca_s]
  by_cases h0 : 0 ≤ n
  · by_cases h1 : n ≤ 15
    · have i_n := ixl (n := 16) h0 h1 (by decide)
      simp [h0, h1, i_n, bd, ck, gR_sI, nlt_of_le, hv, tp_1_1 hT, tp_4_1 hT, kd_1, kd_4, kd_6]
    · simp [h0, h1, lt_of_nle h1, bd, ck, gR_sI, nlt_of_le, hv, tp_1_1 hT, tp_4_1 hT, kd_1, kd_4, kd_6]
  · simp [h0, lt_of_nle h0, bd, ck, gR_sI, nlt_of_le, hv, tp_1_1 hT, tp_4_1 hT, kd_1, kd_4, kd_6]
theorem event_r {st : St} (hT : Top st) (fu : Nat) (n v : Int32) (hv : v = 0 ∨ v = 1) : f_X12_event fu 153 n v st = some (if 0 ≤ n ∧ n ≤ 15 then (1, sI st 210 (ix n) v) else (0, st)) := by
  unfold f_X12_event
  by_cases h0 : 0 ≤ n
  · by_cases h1 : n ≤ 15
    · have i_n := ixl (n := 16) h0 h1 (by decide)
      simp [h0, h1, i_n, bd, ck, gR_sI, nlt_of_le, hv, tp_153_66 hT, kd_153, kd_210, b_X12_event_10]
    · simp [h0, h1, lt_of_nle h1, bd, ck, gR_sI, nlt_of_le, hv, tp_153_66 hT, kd_153, kd_210, b_X12_event_10]
  · simp [h0, lt_of_nle h0, bd, ck, gR_sI, nlt_of_le, hv, tp_153_66 hT, kd_153, kd_210, b_X12_event_10]
theorem line_r {st : St} (hT : Top st) (fu : Nat) (d v : Int32) (hv : v = 0 ∨ v = 1) : f_X12_line fu 153 d v st = some (if 0 ≤ d ∧ d ≤ 3 then (1, sI st 218 (ix d) v) else (0, st)) := by
  unfold f_X12_line
  by_cases h0 : 0 ≤ d
  · by_cases h1 : d ≤ 3
    · have i_d := ixl (n := 4) h0 h1 (by decide)
      simp [h0, h1, i_d, bd, ck, gR_sI, nlt_of_le, hv, tp_153_77 hT, kd_153, kd_218, b_X12_line_9]
    · simp [h0, h1, lt_of_nle h1, bd, ck, gR_sI, nlt_of_le, hv, tp_153_77 hT, kd_153, kd_218, b_X12_line_9]
  · simp [h0, lt_of_nle h0, bd, ck, gR_sI, nlt_of_le, hv, tp_153_77 hT, kd_153, kd_218, b_X12_line_9]
theorem line_c {st : St} (hT : Top st) (fu : Nat) (d v : Int32) (hv : v = 0 ∨ v = 1) : f_X11_line fu 1 d v st = some (if 0 ≤ d ∧ d ≤ 3 then (1, sI st 120 (ix d) (1 - v)) else (0, st)) := by
  unfold f_X11_line
  simp only [within_eq, ca_s]
  by_cases h0 : 0 ≤ d
  · by_cases h1 : d ≤ 3
    · have i_d := ixl (n := 4) h0 h1 (by decide)
      rcases hv with rfl | rfl <;> simp [h0, h1, i_d, bd, ck, gR_sI, tp_1_3 hT, tp_115_4 hT, kd_1, kd_115, kd_120, b_X11_line_28, isb]
    · simp [h0, h1, ck]
  · simp [h0, ck]
theorem crowd_c {st : St} (hT : Top st) (fu : Nat) (n m : Int32) : f_X11_crowd fu 1 n m st = some (if 0 ≤ n ∧ n ≤ 10 ∧ 0 ≤ m ∧ m ≤ 60 then (1, sI st 144 (ix n) m) else (0, st)) := by
  unfold f_X11_crowd
  simp only [within_eq, ca_s]
  by_cases h0 : 0 ≤ n
  · by_cases h1 : n ≤ 10
    · by_cases h2 : 0 ≤ m
      · by_cases h3 : m ≤ 60
        · have i_n := ixl (n := 12) h0 h1 (by decide)
          simp [h0, h1, h2, h3, i_n, bd, ck, gR_sI, nlt_of_le, tp_1_7 hT, tp_139_4 hT, kd_1, kd_139, kd_144, b_X11_crowd_20]
        · simp [h0, h1, h2, h3, lt_of_nle h3, bd, ck, gR_sI, nlt_of_le, tp_1_7 hT, tp_139_4 hT, kd_1, kd_139, kd_144, b_X11_crowd_20]
      · simp [h0, h1, h2, lt_of_nle h2, bd, ck, gR_sI, nlt_of_le, tp_1_7 hT, tp_139_4 hT, kd_1, kd_139, kd_144, b_X11_crowd_20]
    · simp [h0, h1, lt_of_nle h1, bd, ck, gR_sI, nlt_of_le, tp_1_7 hT, tp_139_4 hT, kd_1, kd_139, kd_144, b_X11_crowd_20]
  · simp [h0, lt_of_nle h0, bd, ck, gR_sI, nlt_of_le, tp_1_7 hT, tp_139_4 hT, kd_1, kd_139, kd_144, b_X11_crowd_20]
theorem crowd_r {st : St} (hT : Top st) (fu : Nat) (n m : Int32) : f_X12_crowd fu 153 n m st = some (if 0 ≤ n ∧ n ≤ 10 ∧ 0 ≤ m ∧ m ≤ 60 then (1, sI st 254 (ix n) m) else (0, st)) := by
  unfold f_X12_crowd
  by_cases h0 : 0 ≤ n
  · by_cases h1 : n ≤ 10
    · by_cases h2 : 0 ≤ m
      · by_cases h3 : m ≤ 60
        · have i_n := ixl (n := 11) h0 h1 (by decide)
          simp [h0, h1, h2, h3, i_n, bd, ck, gR_sI, nlt_of_le, tp_153_118 hT, kd_153, kd_254, b_X12_crowd_20]
        · simp [h0, h1, h2, h3, lt_of_nle h3, bd, ck, gR_sI, nlt_of_le, tp_153_118 hT, kd_153, kd_254, b_X12_crowd_20]
      · simp [h0, h1, h2, lt_of_nle h2, bd, ck, gR_sI, nlt_of_le, tp_153_118 hT, kd_153, kd_254, b_X12_crowd_20]
    · simp [h0, h1, lt_of_nle h1, bd, ck, gR_sI, nlt_of_le, tp_153_118 hT, kd_153, kd_254, b_X12_crowd_20]
  · simp [h0, lt_of_nle h0, bd, ck, gR_sI, nlt_of_le, tp_153_118 hT, kd_153, kd_254, b_X12_crowd_20]
theorem fault_c {st : St} (hT : Top st) (fu : Nat) : f_X11_fault fu 1 st = some (gI st 2 8, st) := by
  unfold f_X11_fault
  simp [bd, ck, tp_1_0 hT, kd_1, kd_2]
theorem fault_r {st : St} (fu : Nat) : f_X12_fault fu 153 st = some (gI st 153 6, st) := by
  unfold f_X12_fault
  simp [bd, ck, kd_153]
theorem cut_c {st : St} (hT : Top st) (fu : Nat) (n : Int32) : f_X11_cut fu 1 n st = some (if 0 ≤ n ∧ n ≤ gI st 2 1 then (gI st 2 1 - n, sI st 2 1 n) else (-1, st)) := by
  unfold f_X11_cut
  by_cases h0 : 0 ≤ n
  · by_cases h1 : n ≤ gI st 2 1
    · simp [h0, h1, bd, ck, nlt_of_le, tp_1_0 hT, kd_1, kd_2]
    · simp [h0, h1, bd, ck, nlt_of_le, tp_1_0 hT, kd_1, kd_2, b_X11_cut_15]
  · simp [h0, lt_of_nle h0, b_X11_cut_15]
theorem cut_r {st : St} (fu : Nat) (n : Int32) : f_X12_cut fu 153 n st = some (if 0 ≤ n ∧ n ≤ gI st 153 1 then (gI st 153 1 - n, sI st 153 1 n) else (-1, st)) := by
  unfold f_X12_cut
  by_cases h0 : 0 ≤ n
  · by_cases h1 : n ≤ gI st 153 1
    · simp [h0, h1, bd, ck, nlt_of_le, kd_153]
    · simp [h0, h1, bd, ck, nlt_of_le, kd_153, b_X12_cut_12]
  · simp [h0, lt_of_nle h0, b_X12_cut_12]
