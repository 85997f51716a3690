/-! PURE: other cells at the start -/
theorem zA {o : Nat} (h : o ∈ [28, 29, 196, 197, 6, 210, 116, 214, 118, 216, 140, 141, 142, 143, 144, 250, 251, 252, 253, 254, 231, 232, 119, 217, 3, 154]) : ∀ k, gI stI o k = 0 := by
  have h' : o ∈ [28, 29, 196, 197] ∨ o ∈ [6, 210, 116, 214, 118, 216] ∨ o ∈ [140, 141, 142, 143, 144, 250, 251, 252, 253, 254] ∨ o ∈ [231, 232] ∨ o ∈ [119] ∨ o ∈ [217] ∨ o ∈ [3, 154] := by simp at h ⊢; omega
  rcases h' with h | h | h | h | h | h | h
  · exact zc (zA0 o h).1 (zA0 o h).2
  · exact zc (zA1 o h).1 (zA1 o h).2
  · exact zc (zA2 o h).1 (zA2 o h).2
  · exact zc (zA3 o h).1 (zA3 o h).2
  · have e : o = 119 := by simpa using h
    rw [e]; exact zB119
  · have e : o = 217 := by simpa using h
    rw [e]; exact zB217
  · exact fun k => stI_big.2 o k ((show ∀ o ∈ [3, 154], (kd o).1 = 101 by decide) o h)
theorem zO {o : Nat} (h : o ∈ [28, 29, 196, 197, 6, 210, 116, 214, 118, 216, 140, 141, 142, 143, 144, 250, 251, 252, 253, 254, 231, 232, 119, 217, 3, 154]) : ∀ k, gI stI o k = 0 := zA h
theorem zF {o p : Nat} (h : o ∈ [28, 29, 196, 197, 6, 210, 116, 214, 118, 216, 140, 141, 142, 143, 144, 250, 251, 252, 253, 254, 231, 232, 119, 217, 3, 154]) (h' : p ∈ [28, 29, 196, 197, 6, 210, 116, 214, 118, 216, 140, 141, 142, 143, 144, 250, 251, 252, 253, 254, 231, 232, 119, 217, 3, 154]) : gI stI o = gI stI p := funext fun k => by rw [zO h, zO h']
set_option maxRecDepth 1000000 in
theorem iC1 : gI stI 2 1 = nI 0 ∧ gI stI 153 1 = nI 0 ∧ gI stI 2 8 = gI stI 153 6 ∧ gI stI 139 13 = nI 0 ∧ gI stI 153 113 = nI 0 ∧ (∀ v, v < 12 → gI stI 151 v = nI 0) ∧ (∀ r, r < 40 → gI stI 215 r = -1) ∧ (∀ d, d < 4 → gI stI 218 d = 1 ∧ gI stI 120 d = 0) ∧ (∀ h, h < 60 → gI stI 126 h = nI 0 ∧ gI stI 219 h = nI 0) := by decide +kernel
set_option maxRecDepth 1000000 in
theorem iC2 : gI stI 124 12 = nI 0 ∧ gI stI 153 92 = nI 0 ∧ gI stI 124 11 = nI 0 ∧ gI stI 124 13 = nI 0 ∧ gI stI 124 14 = nI 0 ∧ gL stI 153 93 = lN 0 ∧ gI stI 124 15 = nI 0 ∧ gI stI 124 16 = nI 0 ∧ gR stI 121 0 = 122 ∧ gR stI 121 1 = 123 ∧ gI stI 121 2 = nI 0 ∧ gI stI 153 94 = nI 0 ∧ gR stI 134 0 = 135 ∧ gR stI 134 1 = 136 ∧ (∀ k, k < 15 → gI stI 135 k = nI 0) ∧ ∀ p, p < 3 → gL stI 243 p = lN 0 ∧ gL stI 245 p = lN 0 ∧ ∀ q, q < 3 → gL stI 244 (3 * p + q) = lN 0 := by decide +kernel
set_option maxRecDepth 1000000 in
theorem iC3 : gI stI 1 8 = nI 0 ∧ gI stI 153 40 = nI 0 ∧ gR stI 24 6 = 30 ∧ (∀ l, l < 4 → gR stI (43 + 18 * l) 0 = 44 + 18 * l ∧ gI stI (44 + 18 * l) 12 = nI 0 ∧ gI stI (44 + 18 * l) 13 = nI 0 ∧ gI stI (44 + 18 * l + 8) 0 = nI 0 ∧ gI stI 158 l = nI 0 ∧ gI stI (43 + 18 * l) 5 = -nI 1 ∧ gI stI 186 l = -nI 1 ∧ gI stI (43 + 18 * l) 6 = nI 0 ∧ gI stI 187 l = -nI 1 ∧ gI stI (43 + 18 * l) 8 = -nI 1 ∧ gI stI 188 l = -nI 1 ∧ gI stI (43 + 18 * l) 9 = nI 255 ∧ gI stI 189 l = nI 255 ∧ gI stI 194 (65 * l) = nI 0) ∧ ∀ ch, ch < 64 → gI stI 26 ch = -nI 1 ∧ gI stI 195 (ch + 1) = -nI 1 := by decide +kernel
def iQ (l : Nat) : Prop := ∀ ch, ch < 64 → gI stI (57 + 18 * l) ch = nI 0 ∧ gI stI (58 + 18 * l) ch = nI 0 ∧ gI stI (59 + 18 * l) ch = nI 0 ∧ gI stI (60 + 18 * l) ch = nI 0 ∧ gI stI 191 (65 * l + (ch + 1)) = nI 0 ∧ gI stI 190 (65 * l + (ch + 1)) = nI 0 ∧ gI stI 194 (65 * l + (ch + 1)) = nI 0
set_option maxRecDepth 1000000 in
theorem iC4_0 : ∀ ch, ch < 64 → gI stI (57 + 18 * 0) ch = nI 0 ∧ gI stI (58 + 18 * 0) ch = nI 0 ∧ gI stI (59 + 18 * 0) ch = nI 0 ∧ gI stI (60 + 18 * 0) ch = nI 0 ∧ gI stI 191 (65 * 0 + (ch + 1)) = nI 0 ∧ gI stI 190 (65 * 0 + (ch + 1)) = nI 0 ∧ gI stI 194 (65 * 0 + (ch + 1)) = nI 0 := by decide +kernel
set_option maxRecDepth 1000000 in
theorem iC4_1 : ∀ ch, ch < 64 → gI stI (57 + 18 * 1) ch = nI 0 ∧ gI stI (58 + 18 * 1) ch = nI 0 ∧ gI stI (59 + 18 * 1) ch = nI 0 ∧ gI stI (60 + 18 * 1) ch = nI 0 ∧ gI stI 191 (65 * 1 + (ch + 1)) = nI 0 ∧ gI stI 190 (65 * 1 + (ch + 1)) = nI 0 ∧ gI stI 194 (65 * 1 + (ch + 1)) = nI 0 := by decide +kernel
set_option maxRecDepth 1000000 in
theorem iC4_2 : ∀ ch, ch < 64 → gI stI (57 + 18 * 2) ch = nI 0 ∧ gI stI (58 + 18 * 2) ch = nI 0 ∧ gI stI (59 + 18 * 2) ch = nI 0 ∧ gI stI (60 + 18 * 2) ch = nI 0 ∧ gI stI 191 (65 * 2 + (ch + 1)) = nI 0 ∧ gI stI 190 (65 * 2 + (ch + 1)) = nI 0 ∧ gI stI 194 (65 * 2 + (ch + 1)) = nI 0 := by decide +kernel
set_option maxRecDepth 1000000 in
theorem iC4_3 : ∀ ch, ch < 64 → gI stI (57 + 18 * 3) ch = nI 0 ∧ gI stI (58 + 18 * 3) ch = nI 0 ∧ gI stI (59 + 18 * 3) ch = nI 0 ∧ gI stI (60 + 18 * 3) ch = nI 0 ∧ gI stI 191 (65 * 3 + (ch + 1)) = nI 0 ∧ gI stI 190 (65 * 3 + (ch + 1)) = nI 0 ∧ gI stI 194 (65 * 3 + (ch + 1)) = nI 0 := by decide +kernel
theorem iC4 : ∀ l, l < 4 → ∀ ch, ch < 64 → gI stI (57 + 18 * l) ch = nI 0 ∧ gI stI (58 + 18 * l) ch = nI 0 ∧ gI stI (59 + 18 * l) ch = nI 0 ∧ gI stI (60 + 18 * l) ch = nI 0 ∧ gI stI 191 (65 * l + (ch + 1)) = nI 0 ∧ gI stI 190 (65 * l + (ch + 1)) = nI 0 ∧ gI stI 194 (65 * l + (ch + 1)) = nI 0 := fun l hl => by
  show iQ l
  have e : l = 0 ∨ l = 1 ∨ l = 2 ∨ l = 3 := by omega
  rcases e with e | e | e | e <;> subst e
  · exact iC4_0
  · exact iC4_1
  · exact iC4_2
  · exact iC4_3
set_option maxRecDepth 1000000 in
theorem iC5 : (∀ n, n < 8 → ∀ k, k < 12 → gI stI (8 + 2 * n) k = gI stI (198 + k) n) ∧ (∀ n, n < 8 → gI stI (8 + 2 * n) 0 = 0 ∧ gI stI (8 + 2 * n) 7 = -1 ∧ gR stI (8 + 2 * n) 12 = 9 + 2 * n ∧ gI stI (8 + 2 * n) 13 = nI 0 ∧ gI stI 211 n = nI 0) ∧ gI stI 4 2 = 0 ∧ gI stI 153 67 = 0 ∧ gR stI 4 3 = 7 := by decide +kernel
