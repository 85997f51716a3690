/-- the eleven values of an axis placed anew -/
def plv (lo hi sp ac : Int32) (k : Nat) : Int32 := match k with
  | 0 => 1
  | 1 => lo
  | 2 => hi
  | 3 => sp
  | 4 => ac
  | 5 => lo
  | 6 => 0
  | 7 => -1
  | 8 => lo
  | 9 => lo
  | _ => 0
def plc (o : Nat) (lo hi sp ac : Int32) (st : St) : St := sI (sI (sI (sI (sI (sI (sI (sI (sI (sI (sI st o 0 1) o 1 lo) o 2 hi) o 3 sp) o 4 ac) o 5 lo) o 6 0) o 7 (-1)) o 8 lo) o 9 lo) o 10 0
def plr (n : Nat) (lo hi sp ac : Int32) (st : St) : St := sI (sI (sI (sI (sI (sI (sI (sI (sI (sI (sI st 198 n 1) 199 n lo) 200 n hi) 201 n sp) 202 n ac) 203 n lo) 204 n 0) 205 n (-1)) 206 n lo) 207 n lo) 208 n 0
theorem plc_rd (o : Nat) (lo hi sp ac : Int32) (st : St) (a b : Nat) : gI (plc o lo hi sp ac st) a b = if a = o ∧ b < 11 then plv lo hi sp ac b else gI st a b := by
  unfold plc
  simp only [gI_sI]
  by_cases ha : a = o
  · subst ha
    have : b = 0 ∨ b = 1 ∨ b = 2 ∨ b = 3 ∨ b = 4 ∨ b = 5 ∨ b = 6 ∨ b = 7 ∨ b = 8 ∨ b = 9 ∨ b = 10 ∨ 11 ≤ b := by omega
    rcases this with rfl | rfl | rfl | rfl | rfl | rfl | rfl | rfl | rfl | rfl | rfl | h
    all_goals first | (simp [plv]; done) | skip
    rw [if_neg (show ¬ (a = a ∧ b = 10) by omega), if_neg (show ¬ (a = a ∧ b = 9) by omega), if_neg (show ¬ (a = a ∧ b = 8) by omega), if_neg (show ¬ (a = a ∧ b = 7) by omega), if_neg (show ¬ (a = a ∧ b = 6) by omega), if_neg (show ¬ (a = a ∧ b = 5) by omega), if_neg (show ¬ (a = a ∧ b = 4) by omega), if_neg (show ¬ (a = a ∧ b = 3) by omega), if_neg (show ¬ (a = a ∧ b = 2) by omega), if_neg (show ¬ (a = a ∧ b = 1) by omega), if_neg (show ¬ (a = a ∧ b = 0) by omega), if_neg (show ¬ (a = a ∧ b < 11) by omega)]
  · simp [ha]
theorem plr_rd (n : Nat) (lo hi sp ac : Int32) (st : St) (a b : Nat) : gI (plr n lo hi sp ac st) a b = if (198 ≤ a ∧ a ≤ 208) ∧ b = n then plv lo hi sp ac (a - 198) else gI st a b := by
  unfold plr
  simp only [gI_sI]
  by_cases hb : b = n
  · subst hb
    have : a = 198 ∨ a = 199 ∨ a = 200 ∨ a = 201 ∨ a = 202 ∨ a = 203 ∨ a = 204 ∨ a = 205 ∨ a = 206 ∨ a = 207 ∨ a = 208 ∨ ¬ (198 ≤ a ∧ a ≤ 208) := by omega
    rcases this with rfl | rfl | rfl | rfl | rfl | rfl | rfl | rfl | rfl | rfl | rfl | h
    all_goals first | (simp [plv]; done) | skip
    rw [if_neg (show ¬ (a = 208 ∧ b = b) by omega), if_neg (show ¬ (a = 207 ∧ b = b) by omega), if_neg (show ¬ (a = 206 ∧ b = b) by omega), if_neg (show ¬ (a = 205 ∧ b = b) by omega), if_neg (show ¬ (a = 204 ∧ b = b) by omega), if_neg (show ¬ (a = 203 ∧ b = b) by omega), if_neg (show ¬ (a = 202 ∧ b = b) by omega), if_neg (show ¬ (a = 201 ∧ b = b) by omega), if_neg (show ¬ (a = 200 ∧ b = b) by omega), if_neg (show ¬ (a = 199 ∧ b = b) by omega), if_neg (show ¬ (a = 198 ∧ b = b) by omega), if_neg (show ¬ ((198 ≤ a ∧ a ≤ 208) ∧ b = b) by omega)]
  · simp [hb]
abbrev axC (n lo hi sp ac : Int32) : Prop := (0 ≤ n ∧ n ≤ 7) ∧ (0 ≤ lo ∧ lo ≤ 99999) ∧ (0 ≤ hi ∧ hi ≤ 99999) ∧ ¬ hi ≤ lo ∧ (1 ≤ sp ∧ sp ≤ 999) ∧ (1 ≤ ac ∧ ac ≤ 999)
theorem axis_c {st : St} (hT : Top st) (fu : Nat) {n : Nat} (hn : n < 8) (lo hi sp ac : Int32) (h : axC (nI n) lo hi sp ac) : f_X11_axis fu 1 (nI n) lo hi sp ac st = some (1, plc (8 + 2 * n) lo hi sp ac st) := by
  unfold f_X11_axis
  have en : n < 2147483648 := by omega
  simp only [within_eq, ca_s, h.1, h.2.1, h.2.2.1, h.2.2.2.1, h.2.2.2.2.1, h.2.2.2.2.2]
  simp [b_X11_axis_64, b_X11_axis_89, bd, ck, tp_1_1 hT, tp_4_0 hT, tp_5 hT hn, kd_1, kd_4, kd_5, kd_ax hn, ix_nI en, nI_pos' (show n < 2 ^ 31 by omega), hn, f_X0_place, cv, isb, plc]
theorem axis_c0 {st : St} (fu : Nat) (n lo hi sp ac : Int32) (h : ¬ axC n lo hi sp ac) : f_X11_axis fu 1 n lo hi sp ac st = some (0, st) := by
  unfold f_X11_axis
  simp only [within_eq, ca_s]
  by_cases h1 : 0 ≤ n ∧ n ≤ 7
  · by_cases h2 : 0 ≤ lo ∧ lo ≤ 99999
    · by_cases h3 : 0 ≤ hi ∧ hi ≤ 99999
      · by_cases h4 : hi ≤ lo
        · simp [h1, h2, h3, h4, b_X11_axis_63, b_X11_axis_64, b_X11_axis_89, ck, isb]
        · by_cases h5 : 1 ≤ sp ∧ sp ≤ 999
          · have h6 : ¬ (1 ≤ ac ∧ ac ≤ 999) := fun q => h ⟨h1, h2, h3, h4, h5, q⟩
            simp [h1, h2, h3, h4, h5, h6, b_X11_axis_63, b_X11_axis_64, b_X11_axis_89, ck, isb]
          · simp [h1, h2, h3, h4, h5, b_X11_axis_63, b_X11_axis_64, b_X11_axis_89, ck, isb]
      · simp [h1, h2, h3, b_X11_axis_63, b_X11_axis_64, b_X11_axis_89, ck, isb]
    · simp [h1, h2, b_X11_axis_63, b_X11_axis_64, b_X11_axis_89, ck, isb]
  · simp [h1, b_X11_axis_63, b_X11_axis_64, b_X11_axis_89, ck, isb]
theorem isAxis_eq (fu : Nat) (n : Int32) (st : St) : f_X12_isAxis fu n st = some (if 0 ≤ n ∧ n ≤ 7 then 1 else 0, st) := by
  unfold f_X12_isAxis
  by_cases h1 : 0 ≤ n
  · by_cases h2 : n ≤ 7
    · have : ¬ (8 : Int32) ≤ n := fun q => by have a := i32_le.mp q; have b := i32_le.mp h2; simp at a b; omega
      simp [nlt_of_le h1, h1, h2, this, b_X12_isAxis_15, ck, isb]
    · have : (8 : Int32) ≤ n := by rw [i32_le]; have b := i32_lt.mp (lt_of_nle h2); simp at b ⊢; omega
      simp [nlt_of_le h1, h2, this, b_X12_isAxis_15, b_X12_isAxis_14, ck, isb]
  · simp [lt_of_nle h1, h1, b_X12_isAxis_15, b_X12_isAxis_14, ck, isb]
theorem axis_r {st : St} (hT : Top st) (fu : Nat) {n : Nat} (hn : n < 8) (lo hi sp ac : Int32) (h : axC (nI n) lo hi sp ac) : f_X12_axis fu 153 (nI n) lo hi sp ac st = some (1, plr n lo hi sp ac st) := by
  unfold f_X12_axis
  have en : n < 2147483648 := by omega
  simp only [isAxis_eq, ca_s, h.1]
  simp [nlt_of_le h.2.1.1, nlt_of_le h.2.2.1.2, h.2.2.2.1, nlt_of_le h.2.2.2.2.1.1, nlt_of_le h.2.2.2.2.1.2, nlt_of_le h.2.2.2.2.2.1, h.2.2.2.2.2.2, bd, ck, isb, gR_sI, tp_153_54 hT, tp_153_55 hT, tp_153_56 hT, tp_153_57 hT, tp_153_58 hT, tp_153_59 hT, tp_153_60 hT, tp_153_61 hT, tp_153_62 hT, tp_153_63 hT, tp_153_64 hT, kd_153, kd_198, kd_199, kd_200, kd_201, kd_202, kd_203, kd_204, kd_205, kd_206, kd_207, kd_208, ix_nI en, nI_pos' (show n < 2 ^ 31 by omega), hn, plr]
theorem axis_r0 {st : St} (fu : Nat) (n lo hi sp ac : Int32) (h : ¬ axC n lo hi sp ac) : f_X12_axis fu 153 n lo hi sp ac st = some (0, st) := by
  unfold f_X12_axis
  simp only [isAxis_eq, ca_s]
  by_cases h1 : 0 ≤ n ∧ n ≤ 7
  · by_cases a3 : 0 ≤ lo
    · by_cases a4 : hi ≤ lo
      · simp [h1, nlt_of_le a3, a4, b_X12_axis_51, ck, isb]
      · by_cases a5 : hi ≤ 99999
        · by_cases a6 : 1 ≤ sp
          · by_cases a7 : sp ≤ 999
            · by_cases a8 : 1 ≤ ac
              · have h4 : lo ≤ 99999 := by
                  rw [i32_le] at a5 ⊢; have := i32_lt.mp (lt_of_nle a4); omega
                have h5 : 0 ≤ hi := by
                  rw [i32_le] at a3 ⊢; have := i32_lt.mp (lt_of_nle a4); omega
                have a9 : ¬ ac ≤ 999 := fun q => h ⟨h1, ⟨a3, h4⟩, ⟨h5, a5⟩, a4, ⟨a6, a7⟩, a8, q⟩
                simp [h1, nlt_of_le a3, a4, nlt_of_le a5, nlt_of_le a6, nlt_of_le a7, nlt_of_le a8, a9, b_X12_axis_51, ck, isb]
              · simp [h1, nlt_of_le a3, a4, nlt_of_le a5, nlt_of_le a6, nlt_of_le a7, lt_of_nle a8, b_X12_axis_51, ck, isb]
            · simp [h1, nlt_of_le a3, a4, nlt_of_le a5, nlt_of_le a6, lt_of_nle a7, b_X12_axis_51, ck, isb]
          · simp [h1, nlt_of_le a3, a4, nlt_of_le a5, lt_of_nle a6, b_X12_axis_51, ck, isb]
        · simp [h1, nlt_of_le a3, a4, lt_of_nle a5, b_X12_axis_51, ck, isb]
    · simp [h1, lt_of_nle a3, b_X12_axis_51, ck, isb]
  · simp [h1, b_X12_axis_51, ck, isb]
theorem axis_2 {st : St} (hT : Top st) (hP : P_ax st) (fu : Nat) (n lo hi sp ac : Int32) : Two (f_X11_axis fu 1 n lo hi sp ac) (f_X12_axis fu 153 n lo hi sp ac) S_ax P_ax st := by
  by_cases h : axC n lo hi sp ac
  · obtain ⟨h1, h2, h3, h4, h5⟩ := hP
    obtain ⟨n, hn, rfl⟩ := nI_of3 (m := 7) h.1.1 h.1.2 (by omega)
    have hc := axis_c hT fu (show n < 8 by omega) lo hi sp ac h
    have hr := axis_r (st := plc (8 + 2 * n) lo hi sp ac st) (hT.r rfl) fu (show n < 8 by omega) lo hi sp ac h
    have rd : ∀ a b, gI (plr n lo hi sp ac (plc (8 + 2 * n) lo hi sp ac st)) a b = if (198 ≤ a ∧ a ≤ 208) ∧ b = n then plv lo hi sp ac (a - 198) else if a = 8 + 2 * n ∧ b < 11 then plv lo hi sp ac b else gI st a b := fun a b => by rw [plr_rd, plc_rd]
    have fr : Fr S_ax st (plr n lo hi sp ac (plc (8 + 2 * n) lo hi sp ac st)) := fun a b hk => by
      refine ⟨?_, rfl, rfl⟩
      rw [rd, if_neg, if_neg]
      · rintro ⟨rfl, hb⟩
        rw [S_ax_o (show n < 8 by omega) (by omega)] at hk
        cases hk
      · rintro ⟨⟨p1, p2⟩, rfl⟩
        have := S_ax_r (k := a - 198) (by omega) b
        rw [show 198 + (a - 198) = a by omega] at this
        rw [this] at hk
        cases hk
    refine ⟨_, _, _, hc, hr, fr, fun m k hm hk => ?_, fun m hm => ?_, ?_, ?_, ?_⟩
    · by_cases e : m = n
      · subst e
        by_cases hk2 : k < 11
        · rw [rd, if_neg (by omega), if_pos ⟨rfl, hk2⟩, rd, if_pos ⟨by omega, rfl⟩, show 198 + k - 198 = k by omega]
        · rw [rd, if_neg (by omega), if_neg (by omega), rd, if_neg (by omega), if_neg (by omega)]; exact h1 m k hm hk
      · rw [rd, if_neg (by omega), if_neg (by omega), rd, if_neg (by omega), if_neg (by omega)]; exact h1 m k hm hk
    · by_cases e : m = n
      · subst e
        have rv : ∀ k, k < 11 → gI (plr m lo hi sp ac (plc (8 + 2 * m) lo hi sp ac st)) (8 + 2 * m) k = plv lo hi sp ac k := fun k hk => by rw [rd, if_neg (by omega), if_pos ⟨rfl, hk⟩]
        obtain ⟨lo, hlo, rfl⟩ := nI_of3 (m := 99999) h.2.1.1 h.2.1.2 (by omega)
        obtain ⟨hi, hhi, rfl⟩ := nI_of3 (m := 99999) h.2.2.1.1 h.2.2.1.2 (by omega)
        have s0 : 0 ≤ sp := by have := i32_le.mp h.2.2.2.2.1.1; rw [i32_le]; simp at this ⊢; omega
        have a0 : 0 ≤ ac := by have := i32_le.mp h.2.2.2.2.2.1; rw [i32_le]; simp at this ⊢; omega
        obtain ⟨sp, hsp, rfl⟩ := nI_of3 (m := 999) s0 h.2.2.2.2.1.2 (by omega)
        obtain ⟨ac, hac, rfl⟩ := nI_of3 (m := 999) a0 h.2.2.2.2.2.2 (by omega)
        have s1 : 1 ≤ sp := (nI_leI (a := 1) (b := sp) (by omega) (by omega)).mp h.2.2.2.2.1.1
        have a1 : 1 ≤ ac := (nI_leI (a := 1) (b := ac) (by omega) (by omega)).mp h.2.2.2.2.2.1
        have lh : lo < hi := by
          rcases Nat.lt_or_ge lo hi with q | q
          · exact q
          · exact absurd (nI_le q (by omega)) h.2.2.2.1
        have tl : (nI lo).toInt = lo := nI_toInt (by omega)
        right
        rw [rv 0 (by omega), rv 1 (by omega), rv 2 (by omega), rv 3 (by omega), rv 4 (by omega), rv 5 (by omega), rv 6 (by omega), rv 7 (by omega), rv 10 (by omega)]
        refine ⟨rfl, lo, hi, sp, ac, 0, rfl, rfl, rfl, rfl, rfl, lh, hhi, s1, hsp, a1, hac, by omega, Or.inl rfl, ?_⟩
        show 0 ≤ (nI lo).toInt ∧ (nI lo).toInt ≤ 99999 ∧ -999 ≤ (0 : Int32).toInt ∧ (0 : Int32).toInt ≤ 999 ∧ 0 ≤ rest ac (nI lo).toInt (0 : Int32).toInt ∧ rest ac (nI lo).toInt (0 : Int32).toInt ≤ 99999
        have r0 : rest ac (nI lo).toInt (0 : Int32).toInt = lo := by rw [tl]; simp [rest, brk]
        rw [r0, tl]
        refine ⟨by omega, by omega, by decide, by decide, by omega, by omega⟩
      · exact (h2 m hm).congr (fun k hk => by rw [rd, if_neg (by omega), if_neg (by omega)])
    · rw [rd, if_neg (by omega), if_neg (by omega), rd, if_neg (by omega), if_neg (by omega)]; exact h3
    · rw [rd, if_neg (by omega), if_neg (by omega)]; exact h4
    · rw [rd 4 2, if_neg (by omega), if_neg (by omega)]
      intro q m hm
      by_cases e : m = n
      · subst e
        rw [rd, if_neg (by omega), if_pos ⟨rfl, by omega⟩]; rfl
      · rw [rd, if_neg (by omega), if_neg (by omega)]; exact h5 q m hm
  · exact ⟨_, _, _, axis_c0 fu n lo hi sp ac h, axis_r0 fu n lo hi sp ac h, Fr.rf, hP⟩
theorem odd_r : ∀ j : Nat, j < 8 → ((nI j &&& 1 = 0) ↔ ¬ (nI j - nI j / 2 * 2 = 1)) := by decide
def flC (o : Nat) (p : Int32) (st : St) : St := if p &&& 1 = 0 then sI st o 10 p else sI (sI st o 10 p) o 7 (-1)
def flR (n : Nat) (p : Int32) (st : St) : St := if p &&& 1 = 0 then sI st 208 n p else sI (sI st 208 n p) 205 n (-1)
theorem faults_c {st : St} (hT : Top st) (fu : Nat) {n j : Nat} (hn : n < 8) (hj : j < 8) : f_X11_faults fu 1 (nI n) (nI j) st = some (if gI st (8 + 2 * n) 0 = 0 then (0, st) else (1, flC (8 + 2 * n) (nI j) st)) := by
  unfold f_X11_faults
  have en : n < 2147483648 := by omega
  have xn : 0 ≤ nI n ∧ nI n ≤ 7 := ⟨nI_pos' (by omega), nI_le (a := n) (b := 7) (by omega) (by omega)⟩
  have xj : 0 ≤ nI j ∧ nI j ≤ 7 := ⟨nI_pos' (by omega), nI_le (a := j) (b := 7) (by omega) (by omega)⟩
  simp only [within_eq, ca_s, xn, xj]
  by_cases h : gI st (8 + 2 * n) 0 = 0
  · simp [h, bd, ck, tp_1_1 hT, tp_4_0 hT, tp_5 hT hn, kd_1, kd_4, kd_5, kd_ax hn, ix_nI en, nI_pos' (show n < 2 ^ 31 by omega), hn, b_X11_faults_35, isb]
  · by_cases ho : nI j &&& 1 = 0
    · simp [h, ho, bd, ck, tp_1_1 hT, tp_4_0 hT, tp_5 hT hn, kd_1, kd_4, kd_5, kd_ax hn, ix_nI en, nI_pos' (show n < 2 ^ 31 by omega), hn, f_X0_fail, b_X0_fail_16, cv, isb, flC]
    · simp [h, ho, bd, ck, tp_1_1 hT, tp_4_0 hT, tp_5 hT hn, kd_1, kd_4, kd_5, kd_ax hn, ix_nI en, nI_pos' (show n < 2 ^ 31 by omega), hn, f_X0_fail, b_X0_fail_16, cv, isb, flC]
theorem faults_r {st : St} (hT : Top st) (fu : Nat) {n j : Nat} (hn : n < 8) (hj : j < 8) : f_X12_faults fu 153 (nI n) (nI j) st = some (if gI st 198 n = 0 then (0, st) else (1, flR n (nI j) st)) := by
  unfold f_X12_faults
  have en : n < 2147483648 := by omega
  have xn : 0 ≤ nI n ∧ nI n ≤ 7 := ⟨nI_pos' (by omega), nI_le (a := n) (b := 7) (by omega) (by omega)⟩
  have xj : 0 ≤ nI j ∧ nI j ≤ 7 := ⟨nI_pos' (by omega), nI_le (a := j) (b := 7) (by omega) (by omega)⟩
  simp only [isAxis_eq, ca_s, xn]
  have hodd := odd_r j hj
  by_cases h : gI st 198 n = 0
  · simp [h, bd, ck, tp_153_54 hT, kd_153, kd_198, ix_nI en, nI_pos' (show n < 2 ^ 31 by omega), hn, b_X12_faults_26, isb]
  · by_cases ho : nI j &&& 1 = 0
    · have h2 := hodd.mp ho
      simp [h, ho, h2, nlt_of_le xj.1, xj.2, bd, ck, gR_sI, tp_153_54 hT, tp_153_64 hT, kd_153, kd_198, kd_208, ix_nI en, nI_pos' (show n < 2 ^ 31 by omega), hn, b_X12_faults_49, isb, flR]
    · have h2 : nI j - nI j / 2 * 2 = 1 := Classical.not_not.mp (fun q => ho (hodd.mpr q))
      simp [h, ho, h2, nlt_of_le xj.1, xj.2, bd, ck, gR_sI, tp_153_54 hT, tp_153_64 hT, tp_153_61 hT, kd_153, kd_198, kd_208, kd_205, ix_nI en, nI_pos' (show n < 2 ^ 31 by omega), hn, b_X12_faults_49, isb, flR]
theorem faults_c0 {st : St} (hT : Top st) (fu : Nat) (n j : Int32) (h : ¬ ((0 ≤ n ∧ n ≤ 7) ∧ 0 ≤ j ∧ j ≤ 7)) : f_X11_faults fu 1 n j st = some (0, st) := by
  unfold f_X11_faults
  simp only [within_eq, ca_s]
  by_cases h1 : 0 ≤ n ∧ n ≤ 7
  · have h2 : ¬ (0 ≤ j ∧ j ≤ 7) := fun q => h ⟨h1, q⟩
    simp [h1, h2, b_X11_faults_35, ck, isb]
  · simp [h1, b_X11_faults_35, ck, isb]
theorem faults_r0 {st : St} (hT : Top st) (fu : Nat) (n j : Int32) (h : ¬ ((0 ≤ n ∧ n ≤ 7) ∧ 0 ≤ j ∧ j ≤ 7)) : f_X12_faults fu 153 n j st = some (0, st) := by
  unfold f_X12_faults
  simp only [isAxis_eq, ca_s]
  by_cases h1 : 0 ≤ n ∧ n ≤ 7
  · obtain ⟨n, hn, rfl⟩ := nI_of3 (m := 7) h1.1 h1.2 (by omega)
    have en : n < 2147483648 := by omega
    by_cases h3 : gI st 198 n = 0
    · simp [h1, h3, bd, ck, tp_153_54 hT, kd_153, kd_198, ix_nI en, nI_pos' (show n < 2 ^ 31 by omega), show n < 8 by omega, b_X12_faults_26, isb]
    · by_cases a : 0 ≤ j
      · have b : ¬ j ≤ 7 := fun q => h ⟨h1, a, q⟩
        simp [h1, h3, nlt_of_le a, b, bd, ck, tp_153_54 hT, kd_153, kd_198, ix_nI en, nI_pos' (show n < 2 ^ 31 by omega), show n < 8 by omega, b_X12_faults_26, isb]
      · simp [h1, h3, lt_of_nle a, bd, ck, tp_153_54 hT, kd_153, kd_198, ix_nI en, nI_pos' (show n < 2 ^ 31 by omega), show n < 8 by omega, b_X12_faults_26, isb]
  · simp [h1, b_X12_faults_26, ck, isb]
theorem flC_rd (o : Nat) (p : Int32) (st : St) (a b : Nat) : gI (flC o p st) a b = if a = o ∧ b = 10 then p else if a = o ∧ b = 7 ∧ ¬ (p &&& 1 = 0) then -1 else gI st a b := by
  unfold flC
  by_cases h : p &&& 1 = 0
  · rw [if_pos h, gI_sI]; simp [h]
  · rw [if_neg h, gI_sI, gI_sI]
    by_cases h1 : a = o ∧ b = 10
    · rw [if_neg (by omega), if_pos h1, if_pos h1]
    · rw [if_neg h1, if_neg h1]; simp [h]
theorem flR_rd (n : Nat) (p : Int32) (st : St) (a b : Nat) : gI (flR n p st) a b = if a = 208 ∧ b = n then p else if a = 205 ∧ b = n ∧ ¬ (p &&& 1 = 0) then -1 else gI st a b := by
  unfold flR
  by_cases h : p &&& 1 = 0
  · rw [if_pos h, gI_sI]; simp [h]
  · rw [if_neg h, gI_sI, gI_sI]
    by_cases h1 : a = 208 ∧ b = n
    · rw [if_neg (by omega), if_pos h1, if_pos h1]
    · rw [if_neg h1, if_neg h1]; simp [h]
theorem flC_R (o : Nat) (p : Int32) (st : St) : gR (flC o p st) = gR st ∧ gL (flC o p st) = gL st := by unfold flC; by_cases h : p &&& 1 = 0 <;> simp [h] <;> exact ⟨rfl, rfl⟩
theorem flR_R (o : Nat) (p : Int32) (st : St) : gR (flR o p st) = gR st ∧ gL (flR o p st) = gL st := by unfold flR; by_cases h : p &&& 1 = 0 <;> simp [h] <;> exact ⟨rfl, rfl⟩
theorem faults_2 {st : St} (hT : Top st) (hP : P_ax st) (fu : Nat) (n j : Int32) : Two (f_X11_faults fu 1 n j) (f_X12_faults fu 153 n j) S_ax P_ax st := by
  by_cases h : (0 ≤ n ∧ n ≤ 7) ∧ 0 ≤ j ∧ j ≤ 7
  · have hP0 := hP
    obtain ⟨h1, h2, h3, h4, h5⟩ := hP
    obtain ⟨n, hn, rfl⟩ := nI_of3 (m := 7) h.1.1 h.1.2 (by omega)
    obtain ⟨j, hj, rfl⟩ := nI_of3 (m := 7) h.2.1 h.2.2 (by omega)
    have hn8 : n < 8 := by omega
    have hc := faults_c hT fu hn8 (show j < 8 by omega)
    have e0 := h1 n 0 hn8 (by omega)
    by_cases hz : gI st (8 + 2 * n) 0 = 0
    · rw [if_pos hz] at hc
      have hr := faults_r hT fu hn8 (show j < 8 by omega)
      rw [if_pos (by rw [← e0]; exact hz)] at hr
      exact ⟨_, _, _, hc, hr, Fr.rf, hP0⟩
    · rw [if_neg hz] at hc
      obtain ⟨cR, cL⟩ := flC_R (8 + 2 * n) (nI j) st
      have hTu : Top (flC (8 + 2 * n) (nI j) st) := hT.r cR
      have hr := faults_r hTu fu hn8 (show j < 8 by omega)
      have e1 : gI (flC (8 + 2 * n) (nI j) st) 198 n = gI st 198 n := by rw [flC_rd, if_neg (by omega), if_neg (by omega)]
      rw [e1, if_neg (by rw [← e0]; exact hz)] at hr
      obtain ⟨rR, rL⟩ := flR_R n (nI j) (flC (8 + 2 * n) (nI j) st)
      have rd : ∀ a b, gI (flR n (nI j) (flC (8 + 2 * n) (nI j) st)) a b = if a = 208 ∧ b = n then nI j else if a = 205 ∧ b = n ∧ ¬ (nI j &&& 1 = 0) then -1 else if a = 8 + 2 * n ∧ b = 10 then nI j else if a = 8 + 2 * n ∧ b = 7 ∧ ¬ (nI j &&& 1 = 0) then -1 else gI st a b := fun a b => by rw [flR_rd, flC_rd]
      have fr : Fr S_ax st (flR n (nI j) (flC (8 + 2 * n) (nI j) st)) := fun a b hk => by
        refine ⟨?_, by rw [rL, cL], by rw [rR, cR]⟩
        have o1 : ¬ (a = 8 + 2 * n ∧ b < 12) := by
          rintro ⟨rfl, hb⟩
          rw [S_ax_o hn8 hb] at hk
          cases hk
        have o2 : ¬ (a = 208 ∨ a = 205) := by
          rintro (rfl | rfl)
          · have := S_ax_r (k := 10) (by omega) b; rw [this] at hk; cases hk
          · have := S_ax_r (k := 7) (by omega) b; rw [this] at hk; cases hk
        rw [rd, if_neg (by omega), if_neg (by omega), if_neg (by omega), if_neg (by omega)]
      generalize hw : flR n (nI j) (flC (8 + 2 * n) (nI j) st) = w at hr fr rd
      have same : ∀ m k, m < 8 → m ≠ n → gI w (8 + 2 * m) k = gI st (8 + 2 * m) k := fun m k hm e => by
        rw [rd, if_neg (by omega), if_neg (by omega), if_neg (by omega), if_neg (by omega)]
      refine ⟨_, _, _, hc, hr, fr, fun m k hm hk => ?_, fun m hm => ?_, ?_, ?_, ?_⟩
      · by_cases e : m = n
        · subst e
          by_cases k10 : k = 10
          · subst k10
            rw [rd, if_neg (by omega), if_neg (by omega), if_pos ⟨rfl, rfl⟩, rd, if_pos ⟨rfl, rfl⟩]
          · by_cases k7 : k = 7
            · subst k7
              by_cases ho : nI j &&& 1 = 0
              · rw [rd, if_neg (by omega), if_neg (by omega), if_neg (by omega), if_neg (fun q => q.2.2 ho), rd, if_neg (by omega), if_neg (fun q => q.2.2 ho), if_neg (by omega), if_neg (by omega)]
                exact h1 m 7 hm (by omega)
              · rw [rd, if_neg (by omega), if_neg (by omega), if_neg (by omega), if_pos ⟨rfl, rfl, ho⟩, rd, if_neg (by omega), if_pos ⟨rfl, rfl, ho⟩]
            · rw [rd, if_neg (by omega), if_neg (by omega), if_neg (by omega), if_neg (by omega), rd, if_neg (by omega), if_neg (by omega), if_neg (by omega), if_neg (by omega)]
              exact h1 m k hm hk
        · rw [same m k hm e, rd, if_neg (by omega), if_neg (by omega), if_neg (by omega), if_neg (by omega)]
          exact h1 m k hm hk
      · by_cases e : m = n
        · subst e
          have q := h2 m hm
          have rk : ∀ k, k ≠ 7 → k ≠ 10 → gI w (8 + 2 * m) k = gI st (8 + 2 * m) k := fun k a b => by
            rw [rd, if_neg (by omega), if_neg (by omega), if_neg (by omega), if_neg (by omega)]
          have r10 : gI w (8 + 2 * m) 10 = nI j := by rw [rd, if_neg (by omega), if_neg (by omega), if_pos ⟨rfl, rfl⟩]
          have r7 : gI w (8 + 2 * m) 7 = -1 ∨ gI w (8 + 2 * m) 7 = gI st (8 + 2 * m) 7 := by
            by_cases ho : nI j &&& 1 = 0
            · right; rw [rd, if_neg (by omega), if_neg (by omega), if_neg (by omega), if_neg (fun q => q.2.2 ho)]
            · left; rw [rd, if_neg (by omega), if_neg (by omega), if_neg (by omega), if_pos ⟨rfl, rfl, ho⟩]
          unfold axOK at q ⊢
          rw [rk 0 (by omega) (by omega), rk 1 (by omega) (by omega), rk 2 (by omega) (by omega), rk 3 (by omega) (by omega), rk 4 (by omega) (by omega), rk 5 (by omega) (by omega), rk 6 (by omega) (by omega), r10]
          rcases q with ⟨p, -⟩ | ⟨p, lo, hi, sp, ac, fl, q1, q2, q3, q4, -, q6, q7, q8, q9, q10, q11, -, q13, q14⟩
          · exact absurd p hz
          · refine Or.inr ⟨p, lo, hi, sp, ac, j, q1, q2, q3, q4, rfl, q6, q7, q8, q9, q10, q11, hj, ?_, q14⟩
            rcases r7 with e7 | e7
            · exact Or.inl e7
            · rw [e7]; exact q13
        · exact (h2 m hm).congr (fun k _ => same m k hm e)
      · rw [rd, if_neg (by omega), if_neg (by omega), if_neg (by omega), if_neg (by omega), rd, if_neg (by omega), if_neg (by omega), if_neg (by omega), if_neg (by omega)]; exact h3
      · rw [rd, if_neg (by omega), if_neg (by omega), if_neg (by omega), if_neg (by omega)]; exact h4
      · rw [rd 4 2, if_neg (by omega), if_neg (by omega), if_neg (by omega), if_neg (by omega)]
        intro q m hm
        by_cases e : m = n
        · subst e
          by_cases ho : nI j &&& 1 = 0
          · rw [rd, if_neg (by omega), if_neg (by omega), if_neg (by omega), if_neg (fun q => q.2.2 ho)]; exact h5 q m hm
          · rw [rd, if_neg (by omega), if_neg (by omega), if_neg (by omega), if_pos ⟨rfl, rfl, ho⟩]
        · rw [same m 7 hm e]; exact h5 q m hm
  · exact ⟨_, _, _, faults_c0 hT fu n j h, faults_r0 hT fu n j h, Fr.rf, hP⟩
