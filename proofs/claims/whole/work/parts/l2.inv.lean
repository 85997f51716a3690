/-! PURE: the invariant at the start -/
theorem stI_1 : ∃ s, f_X11_init 10000 1 1 (zr st0 1) = some s ∧ f_X12_init 10000 153 153 (zr s 153) = some stI := by
  have h2 : ini2.isSome = true := ini2_ok
  have h3 : ini2 = some stI := by
    unfold stI
    cases e : ini2 with
    | none => rw [e] at h2; cases h2
    | some s => rfl
  cases e : ini1 with
  | none => unfold ini2 at h3; rw [e] at h3; cases h3
  | some s =>
    refine ⟨s, e, ?_⟩
    unfold ini2 at h3; rw [e] at h3; exact h3
theorem big_zr {st : St} (h : Big st) (o : Nat) : Big (zr st o) := ⟨fun a k h1 h2 => by
  show (if a = o then (0 : Int32) else gI st a k) = 0
  by_cases q : a = o
  · rw [if_pos q]
  · rw [if_neg q]; exact h.1 a k h1 h2, fun a k h1 => by
  show (if a = o then (0 : Int32) else gI st a k) = 0
  by_cases q : a = o
  · rw [if_pos q]
  · rw [if_neg q]; exact h.2 a k h1⟩
theorem stI_big : Big stI := by
  obtain ⟨s, h1, h2⟩ := stI_1
  exact z_X12_init _ _ _ _ (big_zr (z_X11_init _ _ _ _ (big_zr ⟨fun _ _ _ _ => rfl, fun _ _ _ => rfl⟩ 1) s h1) 153) stI h2
theorem zc {o n : Nat} (hk : kd o = (100, n) ∨ kd o = (101, n) ∨ kd o = (102, n)) (hb : ((List.range n).all fun k => decide (gI stI o k = 0)) = true) : ∀ k, gI stI o k = 0 := fun k => by
  have e : (kd o).2 = n ∧ 100 ≤ (kd o).1 := by rcases hk with q | q | q <;> rw [q] <;> exact ⟨rfl, by decide⟩
  rcases Nat.lt_or_ge k n with h | h
  · rw [List.all_eq_true] at hb
    exact of_decide_eq_true (hb k (List.mem_range.mpr h))
  · exact stI_big.1 o k e.2 (by rw [e.1]; exact h)
set_option maxRecDepth 1000000 in
theorem zA0 : ∀ o ∈ [28, 29, 196, 197], (kd o = (100, (kd o).2) ∨ kd o = (101, (kd o).2) ∨ kd o = (102, (kd o).2)) ∧ ((List.range (kd o).2).all fun k => decide (gI stI o k = 0)) = true := by decide +kernel
set_option maxRecDepth 1000000 in
theorem zA1 : ∀ o ∈ [6, 210, 116, 214, 118, 216], (kd o = (100, (kd o).2) ∨ kd o = (101, (kd o).2) ∨ kd o = (102, (kd o).2)) ∧ ((List.range (kd o).2).all fun k => decide (gI stI o k = 0)) = true := by decide +kernel
set_option maxRecDepth 1000000 in
theorem zA2 : ∀ o ∈ [140, 141, 142, 143, 144, 250, 251, 252, 253, 254], (kd o = (100, (kd o).2) ∨ kd o = (101, (kd o).2) ∨ kd o = (102, (kd o).2)) ∧ ((List.range (kd o).2).all fun k => decide (gI stI o k = 0)) = true := by decide +kernel
set_option maxRecDepth 1000000 in
theorem zA3 : ∀ o ∈ [231, 232], (kd o = (100, (kd o).2) ∨ kd o = (101, (kd o).2) ∨ kd o = (102, (kd o).2)) ∧ ((List.range (kd o).2).all fun k => decide (gI stI o k = 0)) = true := by decide +kernel
set_option maxRecDepth 1000000 in
theorem zB119_0 : ((List.range 300).all fun k => decide (gI stI 119 (0 + k) = 0)) = true := by decide +kernel
set_option maxRecDepth 1000000 in
theorem zB119_1 : ((List.range 300).all fun k => decide (gI stI 119 (300 + k) = 0)) = true := by decide +kernel
set_option maxRecDepth 1000000 in
theorem zB119_2 : ((List.range 300).all fun k => decide (gI stI 119 (600 + k) = 0)) = true := by decide +kernel
set_option maxRecDepth 1000000 in
theorem zB119_3 : ((List.range 300).all fun k => decide (gI stI 119 (900 + k) = 0)) = true := by decide +kernel
theorem zB119 : ∀ k, gI stI 119 k = 0 := fun k => by
  have go : ∀ a, ((List.range 300).all fun k => decide (gI stI 119 (a + k) = 0)) = true → a ≤ k → k < a + 300 → gI stI 119 k = 0 := fun a h h1 h2 => by
    rw [List.all_eq_true] at h
    have := of_decide_eq_true (h (k - a) (List.mem_range.mpr (by omega)))
    rw [show a + (k - a) = k by omega] at this
    exact this
  by_cases h0 : 0 ≤ k ∧ k < 300
  · exact go 0 zB119_0 h0.1 h0.2
  by_cases h1 : 300 ≤ k ∧ k < 600
  · exact go 300 zB119_1 h1.1 h1.2
  by_cases h2 : 600 ≤ k ∧ k < 900
  · exact go 600 zB119_2 h2.1 h2.2
  by_cases h3 : 900 ≤ k ∧ k < 1200
  · exact go 900 zB119_3 h3.1 h3.2
  exact stI_big.1 119 k (by decide) (by have : (kd 119).2 = 1200 := by decide
                                    omega)
set_option maxRecDepth 1000000 in
theorem zB217_0 : ((List.range 300).all fun k => decide (gI stI 217 (0 + k) = 0)) = true := by decide +kernel
set_option maxRecDepth 1000000 in
theorem zB217_1 : ((List.range 300).all fun k => decide (gI stI 217 (300 + k) = 0)) = true := by decide +kernel
set_option maxRecDepth 1000000 in
theorem zB217_2 : ((List.range 300).all fun k => decide (gI stI 217 (600 + k) = 0)) = true := by decide +kernel
set_option maxRecDepth 1000000 in
theorem zB217_3 : ((List.range 300).all fun k => decide (gI stI 217 (900 + k) = 0)) = true := by decide +kernel
theorem zB217 : ∀ k, gI stI 217 k = 0 := fun k => by
  have go : ∀ a, ((List.range 300).all fun k => decide (gI stI 217 (a + k) = 0)) = true → a ≤ k → k < a + 300 → gI stI 217 k = 0 := fun a h h1 h2 => by
    rw [List.all_eq_true] at h
    have := of_decide_eq_true (h (k - a) (List.mem_range.mpr (by omega)))
    rw [show a + (k - a) = k by omega] at this
    exact this
  by_cases h0 : 0 ≤ k ∧ k < 300
  · exact go 0 zB217_0 h0.1 h0.2
  by_cases h1 : 300 ≤ k ∧ k < 600
  · exact go 300 zB217_1 h1.1 h1.2
  by_cases h2 : 600 ≤ k ∧ k < 900
  · exact go 600 zB217_2 h2.1 h2.2
  by_cases h3 : 900 ≤ k ∧ k < 1200
  · exact go 900 zB217_3 h3.1 h3.2
  exact stI_big.1 217 k (by decide) (by have : (kd 217).2 = 1200 := by decide
                                    omega)
theorem zA {o : Nat} (h : o ∈ [28, 29, 196, 197, 6, 210, 116, 214, 118, 216, 140, 141, 142, 143, 144, 250, 251, 252, 253, 254, 231, 232, 119, 217, 3, 154]) : ∀ k, gI stI o k = 0 := by
  have h' : o ∈ [28, 29, 196, 197] ∨ o ∈ [6, 210, 116, 214, 118, 216] ∨ o ∈ [140, 141, 142, 143, 144, 250, 251, 252, 253, 254] ∨ o ∈ [231, 232] ∨ o ∈ [119] ∨ o ∈ [217] ∨ o ∈ [3, 154] := by simp at h ⊢; omega
  rcases h' with h | h | h | h | h | h | h
  · exact zc (zA0 o h).1 (zA0 o h).2
  · exact zc (zA1 o h).1 (zA1 o h).2
  · exact zc (zA2 o h).1 (zA2 o h).2
  · exact zc (zA3 o h).1 (zA3 o h).2
  · have e : o = 119 := by simpa using h
    rw [e]; exact zB119
  · have e : o = 217 := by simpa using h
    rw [e]; exact zB217
  · exact fun k => stI_big.2 o k (by have : ∀ o ∈ [3, 154], (kd o).1 = 101 := by decide
                                    exact this o h)
theorem zO {o : Nat} (h : o ∈ [28, 29, 196, 197, 6, 210, 116, 214, 118, 216, 140, 141, 142, 143, 144, 250, 251, 252, 253, 254, 231, 232, 119, 217, 3, 154]) : ∀ k, gI stI o k = 0 := zA h
theorem zF {o p : Nat} (h : o ∈ [28, 29, 196, 197, 6, 210, 116, 214, 118, 216, 140, 141, 142, 143, 144, 250, 251, 252, 253, 254, 231, 232, 119, 217, 3, 154]) (h' : p ∈ [28, 29, 196, 197, 6, 210, 116, 214, 118, 216, 140, 141, 142, 143, 144, 250, 251, 252, 253, 254, 231, 232, 119, 217, 3, 154]) : gI stI o = gI stI p := funext fun k => by rw [zO h, zO h']
set_option maxRecDepth 1000000 in
theorem iC1 : gI stI 2 1 = nI 0 ∧ gI stI 153 1 = nI 0 ∧ gI stI 2 8 = gI stI 153 6 ∧ gI stI 139 13 = nI 0 ∧ gI stI 153 113 = nI 0 ∧ (∀ v, v < 12 → gI stI 151 v = nI 0) ∧ (∀ r, r < 40 → gI stI 215 r = -1) ∧ (∀ d, d < 4 → gI stI 218 d = 1 ∧ gI stI 120 d = 0) ∧ (∀ h, h < 60 → gI stI 126 h = nI 0 ∧ gI stI 219 h = nI 0) := by decide +kernel
set_option maxRecDepth 1000000 in
theorem iC2 : gI stI 124 12 = nI 0 ∧ gI stI 153 92 = nI 0 ∧ gI stI 124 11 = nI 0 ∧ gI stI 124 13 = nI 0 ∧ gI stI 124 14 = nI 0 ∧ gL stI 153 93 = lN 0 ∧ gI stI 124 15 = nI 0 ∧ gI stI 124 16 = nI 0 ∧ gR stI 121 0 = 122 ∧ gR stI 121 1 = 123 ∧ gI stI 121 2 = nI 0 ∧ gI stI 153 94 = nI 0 ∧ gR stI 134 0 = 135 ∧ gR stI 134 1 = 136 ∧ (∀ k, k < 15 → gI stI 135 k = nI 0) ∧ ∀ p, p < 3 → gL stI 243 p = lN 0 ∧ gL stI 245 p = lN 0 ∧ ∀ q, q < 3 → gL stI 244 (3 * p + q) = lN 0 := by decide +kernel
set_option maxRecDepth 1000000 in
theorem iC3 : gI stI 1 8 = nI 0 ∧ gI stI 153 40 = nI 0 ∧ gR stI 24 6 = 30 ∧ (∀ l, l < 4 → gR stI (43 + 18 * l) 0 = 44 + 18 * l ∧ gI stI (44 + 18 * l) 12 = nI 0 ∧ gI stI (44 + 18 * l) 13 = nI 0 ∧ gI stI (44 + 18 * l + 8) 0 = nI 0 ∧ gI stI 158 l = nI 0 ∧ gI stI (43 + 18 * l) 5 = -nI 1 ∧ gI stI 186 l = -nI 1 ∧ gI stI (43 + 18 * l) 6 = nI 0 ∧ gI stI 187 l = -nI 1 ∧ gI stI (43 + 18 * l) 8 = -nI 1 ∧ gI stI 188 l = -nI 1 ∧ gI stI (43 + 18 * l) 9 = nI 255 ∧ gI stI 189 l = nI 255 ∧ gI stI 194 (65 * l) = nI 0) ∧ ∀ ch, ch < 64 → gI stI 26 ch = -nI 1 ∧ gI stI 195 (ch + 1) = -nI 1 := by decide +kernel
def iQ (l : Nat) : Prop := ∀ ch, ch < 64 → gI stI (57 + 18 * l) ch = nI 0 ∧ gI stI (58 + 18 * l) ch = nI 0 ∧ gI stI (59 + 18 * l) ch = nI 0 ∧ gI stI (60 + 18 * l) ch = nI 0 ∧ gI stI 191 (65 * l + (ch + 1)) = nI 0 ∧ gI stI 190 (65 * l + (ch + 1)) = nI 0 ∧ gI stI 194 (65 * l + (ch + 1)) = nI 0
set_option maxRecDepth 1000000 in
theorem iC4_0 : ∀ ch, ch < 64 → gI stI (57 + 18 * 0) ch = nI 0 ∧ gI stI (58 + 18 * 0) ch = nI 0 ∧ gI stI (59 + 18 * 0) ch = nI 0 ∧ gI stI (60 + 18 * 0) ch = nI 0 ∧ gI stI 191 (65 * 0 + (ch + 1)) = nI 0 ∧ gI stI 190 (65 * 0 + (ch + 1)) = nI 0 ∧ gI stI 194 (65 * 0 + (ch + 1)) = nI 0 := by decide +kernel
set_option maxRecDepth 1000000 in
theorem iC4_1 : ∀ ch, ch < 64 → gI stI (57 + 18 * 1) ch = nI 0 ∧ gI stI (58 + 18 * 1) ch = nI 0 ∧ gI stI (59 + 18 * 1) ch = nI 0 ∧ gI stI (60 + 18 * 1) ch = nI 0 ∧ gI stI 191 (65 * 1 + (ch + 1)) = nI 0 ∧ gI stI 190 (65 * 1 + (ch + 1)) = nI 0 ∧ gI stI 194 (65 * 1 + (ch + 1)) = nI 0 := by decide +kernel
set_option maxRecDepth 1000000 in
theorem iC4_2 : ∀ ch, ch < 64 → gI stI (57 + 18 * 2) ch = nI 0 ∧ gI stI (58 + 18 * 2) ch = nI 0 ∧ gI stI (59 + 18 * 2) ch = nI 0 ∧ gI stI (60 + 18 * 2) ch = nI 0 ∧ gI stI 191 (65 * 2 + (ch + 1)) = nI 0 ∧ gI stI 190 (65 * 2 + (ch + 1)) = nI 0 ∧ gI stI 194 (65 * 2 + (ch + 1)) = nI 0 := by decide +kernel
set_option maxRecDepth 1000000 in
theorem iC4_3 : ∀ ch, ch < 64 → gI stI (57 + 18 * 3) ch = nI 0 ∧ gI stI (58 + 18 * 3) ch = nI 0 ∧ gI stI (59 + 18 * 3) ch = nI 0 ∧ gI stI (60 + 18 * 3) ch = nI 0 ∧ gI stI 191 (65 * 3 + (ch + 1)) = nI 0 ∧ gI stI 190 (65 * 3 + (ch + 1)) = nI 0 ∧ gI stI 194 (65 * 3 + (ch + 1)) = nI 0 := by decide +kernel
theorem iC4 : ∀ l, l < 4 → ∀ ch, ch < 64 → gI stI (57 + 18 * l) ch = nI 0 ∧ gI stI (58 + 18 * l) ch = nI 0 ∧ gI stI (59 + 18 * l) ch = nI 0 ∧ gI stI (60 + 18 * l) ch = nI 0 ∧ gI stI 191 (65 * l + (ch + 1)) = nI 0 ∧ gI stI 190 (65 * l + (ch + 1)) = nI 0 ∧ gI stI 194 (65 * l + (ch + 1)) = nI 0 := fun l hl => by
  show iQ l
  have e : l = 0 ∨ l = 1 ∨ l = 2 ∨ l = 3 := by omega
  rcases e with e | e | e | e <;> subst e
  · exact iC4_0
  · exact iC4_1
  · exact iC4_2
  · exact iC4_3
set_option maxRecDepth 1000000 in
theorem iC5 : (∀ n, n < 8 → ∀ k, k < 12 → gI stI (8 + 2 * n) k = gI stI (198 + k) n) ∧ (∀ n, n < 8 → gI stI (8 + 2 * n) 0 = 0 ∧ gI stI (8 + 2 * n) 7 = -1 ∧ gR stI (8 + 2 * n) 12 = 9 + 2 * n ∧ gI stI (8 + 2 * n) 13 = nI 0 ∧ gI stI 211 n = nI 0) ∧ gI stI 4 2 = 0 ∧ gI stI 153 67 = 0 ∧ gR stI 4 3 = 7 := by decide +kernel
theorem i_txt : P_txt stI := ⟨⟨zF (by decide) (by decide), by rw [iC1.1, iC1.2.1], 0, by omega, iC1.1⟩, iC1.2.2.1, fun k => by rw [zO (o := 3) (by decide)]; decide⟩
theorem i_wire : P_wire stI := by
  refine ⟨zF (by decide) (by decide), zF (by decide) (by decide), by rw [ini_a.1, ini_a.2.1], fun k => ?_, fun k => ?_, ?_, ?_⟩
  · rw [zO (o := 28) (by decide)]; decide
  · rw [zO (o := 29) (by decide)]; decide
  · rw [ini_a.1]; decide
  · rw [ini_a.1]; decide
theorem i_ways : P_ways stI := by
  refine ⟨0, by omega, iC1.2.2.2.1, iC1.2.2.2.2.1, zF (by decide) (by decide), zF (by decide) (by decide), zF (by decide) (by decide), zF (by decide) (by decide), zF (by decide) (by decide), fun k => ⟨0, by omega, ?_⟩, fun k _ => zO (by decide) k, fun w hw => by omega, fun v hv => ⟨iC1.2.2.2.2.2.1 v hv, fun j x h => ?_⟩⟩
  · rw [zO (o := 144) (by decide)]; rfl
  · have e : inc (gI stI 140) (gI stI 141) v 0 = [] := rfl
    rw [e] at h; simp at h
theorem i_218 : ∀ d, gI stI 218 d = 0 ∨ gI stI 218 d = 1 := fun d => by
  rcases Nat.lt_or_ge d 4 with h | h
  · exact Or.inr (iC1.2.2.2.2.2.2.2.1 d h).1
  · exact Or.inl (stI_big.1 218 d (by decide) (by have : (kd 218).2 = 4 := by decide
                                                omega))
theorem i_hall : P_hall stI := by
  refine ⟨zF (by decide) (by decide), fun k => ⟨0, by omega, ?_⟩, zF (by decide) (by decide), fun r => ⟨0, by omega, ?_⟩, zF (by decide) (by decide), fun r k n _ _ _ => zO (by decide) _, fun k => Or.inl (zO (by decide) k), fun r hr _ => iC1.2.2.2.2.2.2.1 r hr, fun r h => absurd (zO (by decide) r) h, fun d => ⟨i_218 d, fun hd => ?_⟩⟩
  · rw [zO (o := 116) (by decide)]; rfl
  · rw [zO (o := 118) (by decide)]; rfl
  · have := iC1.2.2.2.2.2.2.2.1 d hd
    rw [this.1, this.2]; decide
theorem sm_z (n : Nat) : sm n (fun _ => 0) = 0 := by
  induction n with
  | zero => rfl
  | succ n ih => simp [sm, ih]
theorem i_box : P_box stI := by
  have z := iC2
  refine ⟨fun _ => 0, fun _ => 0, fun _ => 0, fun _ => 0, 0, fun _ => 0, fun _ => 0, fun _ => 0, fun _ => 0, fun _ => 0, fun k => ?_, fun h hh => ⟨⟨(iC1.2.2.2.2.2.2.2.2 h hh).1, by omega, (iC1.2.2.2.2.2.2.2.2 h hh).2⟩, fun q => by omega⟩, ⟨⟨by omega, z.1, z.2.1⟩, fun t ht => by omega, fun t _ => ⟨zO (by decide) t, zO (by decide) t⟩⟩, ?_⟩
  · rw [zO (o := 119) (by decide)]; rfl
  · refine ⟨?_, z.2.2.2.1, z.2.2.2.2.1, z.2.2.2.2.2.1, z.2.2.2.2.2.2.1, z.2.2.2.2.2.2.2.1⟩
    rw [show (fun h : Nat => if (0 : Nat) = 0 then 0 else 1) = fun _ => (0 : Nat) from rfl, sm_z]
    exact z.2.2.1
theorem i_rul : P_rul stI := by
  have z := iC2.2.2.2.2.2.2.2.2
  exact ⟨(122, 123, 0, fun _ => 0, fun _ => 0, fun _ => 0, fun _ => 0, fun _ => 0, fun _ => 0, fun _ => 0, fun _ => 0, fun _ => 0, fun _ => 0), z.1, z.2.1, Or.inl ⟨rfl, rfl⟩, Nat.zero_le _, z.2.2.1, z.2.2.2.1, fun i hi => absurd hi (Nat.not_lt_zero _)⟩
theorem i_sh : P_sh stI := by
  have z := iC2.2.2.2.2.2.2.2.2.2.2.2.2
  exact ⟨135, 136, fun _ => 0, z.1, z.2.1, Or.inl ⟨rfl, rfl⟩, fun k hk => ⟨z.2.2.1 k hk, by omega, fun _ => by omega⟩, fun p hp => z.2.2.2 p hp⟩
theorem i_ls : P_ls 0 stI := by
  have z := iC3
  refine ⟨0, 30, fun l => 44 + 18 * l, fun _ => 0, fun _ => 0, fun _ => D0, by omega, z.1, z.2.1, ⟨z.2.2.1, Or.inl rfl, fun l hl => ?_⟩, fun l hl => ⟨?_, ?_⟩, fun ch h1 h2 => ?_⟩
  · have q := z.2.2.2.1 l hl
    refine ⟨q.1, ?_, ?_, fun m hm hn => ?_, ⟨q.2.1, fun x hx => absurd hx (Nat.not_lt_zero _), ⟨q.2.2.1, fun i hi => absurd hi (Nat.not_lt_zero _)⟩, fun i hi => ?_⟩, LOK_0, ⟨q.2.2.2.2.1, fun i hi => absurd hi (Nat.not_lt_zero _), fun i hi => absurd hi (Nat.not_lt_zero _)⟩⟩
    · show SQ (44 + 18 * l)
      unfold SQ
      omega
    · show 44 + 18 * l ≠ 30
      omega
    · show 44 + 18 * m ≠ 44 + 18 * l
      omega
    · have : i = 0 := by omega
      subst this
      exact q.2.2.2.1
  · obtain ⟨-, -, -, -, -, q5, q6, q7, q8, q9, q10, q11, q12, -⟩ := z.2.2.2.1 l hl
    exact ⟨by rw [q5, q6], Or.inl q5, Or.inr ⟨q7, q8, Or.inl ⟨q9, q10⟩⟩, 255, by omega, q11, q12⟩
  · refine ⟨(z.2.2.2.1 l hl).2.2.2.2.2.2.2.2.2.2.2.2.2, fun ch hc => ⟨0, 0, 0, 0, ?_⟩⟩
    have q := iC4 l hl ch hc
    exact ⟨by omega, by omega, by omega, by omega, q.1, q.2.1, q.2.2.1, q.2.2.2.1, q.2.2.2.2.1, q.2.2.2.2.2.1, fun _ => q.2.2.2.2.2.2, fun h => absurd (Or.inl rfl) h⟩
  · have q := z.2.2.2.2 ch h2
    exact ⟨by rw [q.1, q.2], Or.inl q.1⟩
theorem i_ax : P_ax stI := by
  have z := iC5
  exact ⟨fun n k hn hk => z.1 n hn k hk, fun n hn => Or.inl ⟨(z.2.1 n hn).1, (z.2.1 n hn).2.1⟩, by rw [z.2.2.1, z.2.2.2.1], Or.inl z.2.2.1, fun e => absurd e (by rw [z.2.2.1]; decide)⟩
theorem i_ev : P_ev stI := ⟨zF (by decide) (by decide), fun k => Or.inl (zO (by decide) k)⟩
theorem i_lk : P_lk stI := by
  have z := iC5
  have y : ∀ m, m < 8 → gR stI (8 + 2 * m) 12 = 9 + 2 * m := fun m hm => (z.2.1 m hm).2.2.1
  refine ⟨⟨⟨0, by omega, z.2.2.2.2⟩, fun m hm => ⟨⟨m + 1, by omega, by rw [y m hm]; omega⟩, by rw [y m hm, z.2.2.2.2]; omega⟩, fun m k hm hk hn => by rw [y m hm, y k hk]; omega⟩, fun _ => none, fun m hm => ?_, fun m hm => (z.2.1 m hm).2.2.2.2⟩
  refine ⟨by simp, (z.2.1 m hm).2.2.2.1, 9 + 2 * m, y m hm, by omega, ?_, fun i h => absurd h (Nat.not_lt_zero _)⟩
  have : ∀ m, m < 8 → kd (9 + 2 * m) = (100, 60) := by decide
  exact this m hm
theorem inv_I : Inv 0 stI := ⟨ini_top, i_txt, i_wire, i_ways, ⟨i_hall, i_box⟩, i_rul, i_sh, i_ls, i_ax, i_ev, i_lk⟩
/-- what is left: empty -/
theorem law_of (hE : ∀ st, Top st → P_ways st → Two (f_X11_empty 10000 1) (f_X12_empty 10000 153) W_em (fun _ => True) st) : ∀ (xs : Nat → Int32) (L : Nat), L ≤ 448 → ∃ fu, law_f fu xs L st0 = some 1 := fun xs L hL => by
  refine ⟨10000, ?_⟩
  obtain ⟨s, h1, h2⟩ := stI_1
  unfold law_f
  rw [ck, if_pos (by decide)]
  show cv (f_X11_init 10000 1 1 (zr st0 1)) _ = _
  rw [h1]
  show ck _ _ = _
  rw [ck, if_pos (by decide)]
  show cv (f_X12_init 10000 153 153 (zr s 153)) _ = _
  rw [h2]
  exact law_pure (steps_ok (Nat.le_refl _) hE) hL 10000 0 stI (by omega) inv_I (by omega)
