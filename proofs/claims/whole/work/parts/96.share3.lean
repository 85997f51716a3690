/-! PURE: share: the call -/
theorem tl_s {s : St} (hT : Top s) (fu F : Nat) (what : Int32) (W : Int64) {p i : Nat} (hp : p < 3) (hi : i < 3) : b_X5_tell_39 fu (F + 1) 134 (nI p) what W (nI i) s = b_X5_tell_39 fu F 134 (nI p) what W (nI (i + 1)) (sL s 137 (3 * i + p) (gL s 138 i)) := by
  show b_X5_tell_39_b fu (b_X5_tell_39 fu F) 134 (nI p) what W (nI i) s = _
  simp (disch := first | decide | omega) [isb, ck_tt, NP, NF, NC, NB, NS, GS, kdC, tpC hT, b_X5_tell_39_b]
theorem tl_e {s : St} (hT : Top s) (fu F : Nat) (what : Int32) (W : Int64) (p : Int32) : b_X5_tell_39 fu (F + 1) 134 p what W (nI 3) s = if 0 ≤ lg_cmp W 0 then b_X5_tell_92 fu what W (dt (gL s 137 0) (gL s 137 1) (gL s 137 2) (gL s 137 3) (gL s 137 4) (gL s 137 5) (gL s 137 6) (gL s 137 7) (gL s 137 8)) s else b_X5_tell_92 fu what (-W) (-(dt (gL s 137 0) (gL s 137 1) (gL s 137 2) (gL s 137 3) (gL s 137 4) (gL s 137 5) (gL s 137 6) (gL s 137 7) (gL s 137 8))) s := by
  have d := det_c hT fu
  show b_X5_tell_39_b fu (b_X5_tell_39 fu F) 134 p what W (nI 3) s = _
  unfold b_X5_tell_39_b
  rw [if_pos (show (3 : Int32) ≤ nI 3 from by decide), ck_t (show (kd 134).1 = 5 from rfl), d, ca_s]
  rfl
theorem tl_p0 {st : St} (hT : Top st) (F : Nat) (what : Int32) (W a0 a1 a2 a3 a4 a5 a6 a7 a8 b0 b1 b2 : Int64) : b_X5_tell_39 (F + 10) (F + 10) 134 (nI 0) what W (nI 0) (r9 a0 a1 a2 a3 a4 a5 a6 a7 a8 b0 b1 b2 st) = if 0 ≤ lg_cmp W 0 then b_X5_tell_92 (F + 10) what W (dt b0 a1 a2 b1 a4 a5 b2 a7 a8) (sL (sL (sL (r9 a0 a1 a2 a3 a4 a5 a6 a7 a8 b0 b1 b2 st) 137 0 b0) 137 3 b1) 137 6 b2) else b_X5_tell_92 (F + 10) what (-W) (-(dt b0 a1 a2 b1 a4 a5 b2 a7 a8)) (sL (sL (sL (r9 a0 a1 a2 a3 a4 a5 a6 a7 a8 b0 b1 b2 st) 137 0 b0) 137 3 b1) 137 6 b2) := by
  have e := tl_s (s := r9 a0 a1 a2 a3 a4 a5 a6 a7 a8 b0 b1 b2 st) (hT.r rfl) (F + 10) (F + 9) what W (p := 0) (i := 0) (by omega) (by omega)
  have e1 := tl_s (s := sL (r9 a0 a1 a2 a3 a4 a5 a6 a7 a8 b0 b1 b2 st) 137 0 b0) (hT.r rfl) (F + 10) (F + 8) what W (p := 0) (i := 1) (by omega) (by omega)
  have e2 := tl_s (s := sL (sL (r9 a0 a1 a2 a3 a4 a5 a6 a7 a8 b0 b1 b2 st) 137 0 b0) 137 3 b1) (hT.r rfl) (F + 10) (F + 7) what W (p := 0) (i := 2) (by omega) (by omega)
  have e3 := tl_e (s := (sL (sL (sL (r9 a0 a1 a2 a3 a4 a5 a6 a7 a8 b0 b1 b2 st) 137 0 b0) 137 3 b1) 137 6 b2)) (hT.r rfl) (F + 10) (F + 6) what W (nI 0)
  rw [r9_b0] at e
  rw [show gL (sL (r9 a0 a1 a2 a3 a4 a5 a6 a7 a8 b0 b1 b2 st) 137 0 b0) 138 1 = b1 by simp [gL_sL, r9_b1]] at e1
  rw [show gL (sL (sL (r9 a0 a1 a2 a3 a4 a5 a6 a7 a8 b0 b1 b2 st) 137 0 b0) 137 3 b1) 138 2 = b2 by simp [gL_sL, r9_b2]] at e2
  simp only [gL_sL, r9_0, r9_1, r9_2, r9_3, r9_4, r9_5, r9_6, r9_7, r9_8] at e3
  exact e.trans (e1.trans (e2.trans e3))
theorem tl_p1 {st : St} (hT : Top st) (F : Nat) (what : Int32) (W a0 a1 a2 a3 a4 a5 a6 a7 a8 b0 b1 b2 : Int64) : b_X5_tell_39 (F + 10) (F + 10) 134 (nI 1) what W (nI 0) (r9 a0 a1 a2 a3 a4 a5 a6 a7 a8 b0 b1 b2 st) = if 0 ≤ lg_cmp W 0 then b_X5_tell_92 (F + 10) what W (dt a0 b0 a2 a3 b1 a5 a6 b2 a8) (sL (sL (sL (r9 a0 a1 a2 a3 a4 a5 a6 a7 a8 b0 b1 b2 st) 137 1 b0) 137 4 b1) 137 7 b2) else b_X5_tell_92 (F + 10) what (-W) (-(dt a0 b0 a2 a3 b1 a5 a6 b2 a8)) (sL (sL (sL (r9 a0 a1 a2 a3 a4 a5 a6 a7 a8 b0 b1 b2 st) 137 1 b0) 137 4 b1) 137 7 b2) := by
  have e := tl_s (s := r9 a0 a1 a2 a3 a4 a5 a6 a7 a8 b0 b1 b2 st) (hT.r rfl) (F + 10) (F + 9) what W (p := 1) (i := 0) (by omega) (by omega)
  have e1 := tl_s (s := sL (r9 a0 a1 a2 a3 a4 a5 a6 a7 a8 b0 b1 b2 st) 137 1 b0) (hT.r rfl) (F + 10) (F + 8) what W (p := 1) (i := 1) (by omega) (by omega)
  have e2 := tl_s (s := sL (sL (r9 a0 a1 a2 a3 a4 a5 a6 a7 a8 b0 b1 b2 st) 137 1 b0) 137 4 b1) (hT.r rfl) (F + 10) (F + 7) what W (p := 1) (i := 2) (by omega) (by omega)
  have e3 := tl_e (s := (sL (sL (sL (r9 a0 a1 a2 a3 a4 a5 a6 a7 a8 b0 b1 b2 st) 137 1 b0) 137 4 b1) 137 7 b2)) (hT.r rfl) (F + 10) (F + 6) what W (nI 1)
  rw [r9_b0] at e
  rw [show gL (sL (r9 a0 a1 a2 a3 a4 a5 a6 a7 a8 b0 b1 b2 st) 137 1 b0) 138 1 = b1 by simp [gL_sL, r9_b1]] at e1
  rw [show gL (sL (sL (r9 a0 a1 a2 a3 a4 a5 a6 a7 a8 b0 b1 b2 st) 137 1 b0) 137 4 b1) 138 2 = b2 by simp [gL_sL, r9_b2]] at e2
  simp only [gL_sL, r9_0, r9_1, r9_2, r9_3, r9_4, r9_5, r9_6, r9_7, r9_8] at e3
  exact e.trans (e1.trans (e2.trans e3))
theorem tl_p2 {st : St} (hT : Top st) (F : Nat) (what : Int32) (W a0 a1 a2 a3 a4 a5 a6 a7 a8 b0 b1 b2 : Int64) : b_X5_tell_39 (F + 10) (F + 10) 134 (nI 2) what W (nI 0) (r9 a0 a1 a2 a3 a4 a5 a6 a7 a8 b0 b1 b2 st) = if 0 ≤ lg_cmp W 0 then b_X5_tell_92 (F + 10) what W (dt a0 a1 b0 a3 a4 b1 a6 a7 b2) (sL (sL (sL (r9 a0 a1 a2 a3 a4 a5 a6 a7 a8 b0 b1 b2 st) 137 2 b0) 137 5 b1) 137 8 b2) else b_X5_tell_92 (F + 10) what (-W) (-(dt a0 a1 b0 a3 a4 b1 a6 a7 b2)) (sL (sL (sL (r9 a0 a1 a2 a3 a4 a5 a6 a7 a8 b0 b1 b2 st) 137 2 b0) 137 5 b1) 137 8 b2) := by
  have e := tl_s (s := r9 a0 a1 a2 a3 a4 a5 a6 a7 a8 b0 b1 b2 st) (hT.r rfl) (F + 10) (F + 9) what W (p := 2) (i := 0) (by omega) (by omega)
  have e1 := tl_s (s := sL (r9 a0 a1 a2 a3 a4 a5 a6 a7 a8 b0 b1 b2 st) 137 2 b0) (hT.r rfl) (F + 10) (F + 8) what W (p := 2) (i := 1) (by omega) (by omega)
  have e2 := tl_s (s := sL (sL (r9 a0 a1 a2 a3 a4 a5 a6 a7 a8 b0 b1 b2 st) 137 2 b0) 137 5 b1) (hT.r rfl) (F + 10) (F + 7) what W (p := 2) (i := 2) (by omega) (by omega)
  have e3 := tl_e (s := (sL (sL (sL (r9 a0 a1 a2 a3 a4 a5 a6 a7 a8 b0 b1 b2 st) 137 2 b0) 137 5 b1) 137 8 b2)) (hT.r rfl) (F + 10) (F + 6) what W (nI 2)
  rw [r9_b0] at e
  rw [show gL (sL (r9 a0 a1 a2 a3 a4 a5 a6 a7 a8 b0 b1 b2 st) 137 2 b0) 138 1 = b1 by simp [gL_sL, r9_b1]] at e1
  rw [show gL (sL (sL (r9 a0 a1 a2 a3 a4 a5 a6 a7 a8 b0 b1 b2 st) 137 2 b0) 137 5 b1) 138 2 = b2 by simp [gL_sL, r9_b2]] at e2
  simp only [gL_sL, r9_0, r9_1, r9_2, r9_3, r9_4, r9_5, r9_6, r9_7, r9_8] at e3
  exact e.trans (e1.trans (e2.trans e3))
/-- class and reference, once the numbers stand -/
theorem tell_300 {st u : St} {fu : Nat} (hf : 200 ≤ fu) (what : Int32) {w p : Int} (hw : w ≠ 0 ∧ -1073741824 < w ∧ w < 1073741824) (hp : -4611686018427387904 < p ∧ p < 4611686018427387904) : ∃ v, (if 0 ≤ lg_cmp (zL w) 0 then b_X5_tell_92 fu what (zL w) (zL p) st else b_X5_tell_92 fu what (-zL w) (-zL p) st) = some (v, st) ∧ b_X12_share_300 fu what (zL w) (zL p) u = some (v, u) := by
  unfold b_X12_share_300
  by_cases h : 0 < w
  · have c : 0 ≤ lg_cmp (zL w) 0 := by
      rw [lg_cmp_ge, show (0 : Int64) = zL 0 from rfl, Int64.le_iff_toInt_le, zL_t (by omega), zL_t (by omega)]
      omega
    rw [if_pos c, if_pos c]
    exact tell_92 hf what (by omega) hp
  · have c : ¬ 0 ≤ lg_cmp (zL w) 0 := by
      rw [lg_cmp_ge, show (0 : Int64) = zL 0 from rfl, Int64.le_iff_toInt_le, zL_t (by omega), zL_t (by omega)]
      omega
    rw [if_neg c, if_neg c, bd_e, bd_e, zL_neg, zL_neg]
    exact tell_92 hf what (by omega) (by omega)
theorem share_c {st : St} (hT : Top st) {F : Nat} {o : Nat} (ho : gR st 134 0 = o) (hk : kd o = (100, 15)) (hoz : o ≠ 0) {p w : Nat} (hp : p ≤ 2) (hw : w ≤ 3) {a0 a1 a2 a3 a4 a5 a6 a7 a8 b0 b1 b2 : Int64} (hR : rw9 o (gI st 124 14) st = r9 a0 a1 a2 a3 a4 a5 a6 a7 a8 b0 b1 b2 st) : f_X11_share (F + 10) 1 (nI p) (nI w) st = if dt a0 a1 a2 a3 a4 a5 a6 a7 a8 = 0 then some (0, r9 a0 a1 a2 a3 a4 a5 a6 a7 a8 b0 b1 b2 st) else if w = 3 then some (1, r9 a0 a1 a2 a3 a4 a5 a6 a7 a8 b0 b1 b2 st) else b_X5_tell_39 (F + 10) (F + 10) 134 (nI p) (nI w) (dt a0 a1 a2 a3 a4 a5 a6 a7 a8) (nI 0) (r9 a0 a1 a2 a3 a4 a5 a6 a7 a8 b0 b1 b2 st) := by
  have fr := fillRows_c hT F ho hk hoz (gI st 124 14)
  rw [hR] at fr
  have d := det_c (st := r9 a0 a1 a2 a3 a4 a5 a6 a7 a8 b0 b1 b2 st) (hT.r rfl) (F + 10)
  rw [r9_0, r9_1, r9_2, r9_3, r9_4, r9_5, r9_6, r9_7, r9_8] at d
  obtain ⟨D, hD⟩ : ∃ D, D = dt a0 a1 a2 a3 a4 a5 a6 a7 a8 := ⟨_, rfl⟩
  obtain ⟨R, hRR⟩ : ∃ R, R = r9 a0 a1 a2 a3 a4 a5 a6 a7 a8 b0 b1 b2 st := ⟨_, rfl⟩
  rw [← hRR] at fr d ⊢
  rw [← hD] at d ⊢
  clear hR hRR hD
  have c1 : nI 0 ≤ nI p ∧ nI p ≤ nI 2 := ⟨nI_le (by omega) (by omega), nI_le (by omega) (by omega)⟩
  have c2 : nI 0 ≤ nI w ∧ nI w ≤ nI 3 := ⟨nI_le (by omega) (by omega), nI_le (by omega) (by omega)⟩
  have e : f_X11_share (F + 10) 1 (nI p) (nI w) st = f_X5_tell (F + 10) 134 (nI p) (nI w) (gI st 124 14) st := by
    unfold f_X11_share
    rw [within_eq, ca_s, if_pos (show (0 : Int32) ≤ nI p ∧ nI p ≤ 2 from c1), if_neg (by decide), within_eq, ca_s, if_pos (show (0 : Int32) ≤ nI w ∧ nI w ≤ 3 from c2), if_neg (by decide)]
    simp (disch := first | decide | omega) [isb, ck_tt, NP, NF, NC, NB, NS, GS, kdC, tpC hT, ck_tt]
    cases f_X5_tell (F + 10) 134 (nI p) (nI w) (gI st 124 14) st <;> rfl
  rw [e]
  unfold f_X5_tell
  rw [ck_t (show (kd 134).1 = 5 from rfl), fr, cv_s, ck_t (show (kd 134).1 = 5 from rfl), d, ca_s]
  unfold b_X5_tell_23 b_X5_tell_35
  by_cases h : D = 0
  · have h2 : lg_cmp D 0 = 0 := (lg_cmp_eq _ _).mpr h
    rw [if_pos h2, if_pos h2, if_pos h]
  · have h2 : ¬ lg_cmp D 0 = 0 := fun q => h ((lg_cmp_eq _ _).mp q)
    rw [if_neg h2, if_neg h]
    by_cases h3 : w = 3
    · subst h3
      rw [if_pos (show nI 3 = (3 : Int32) from rfl), if_neg h2, if_pos rfl]
    · rw [if_neg h3, if_neg (show ¬ nI w = 3 from fun q => h3 ((nI_eq (by omega) (by omega)).mp (show nI w = nI 3 from q)))]
      rfl
