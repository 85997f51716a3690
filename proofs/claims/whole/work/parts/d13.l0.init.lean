/-! PURE: both objects, made -/
def ini1 : Option St := f_X11_init 10000 1 1 (zr st0 1)
def ini2 : Option St := match ini1 with
  | some s => f_X12_init 10000 153 153 (zr s 153)
  | none => none
def stI : St := ini2.getD st0
set_option maxRecDepth 1000000 in
theorem ini1_ok : ini1.isSome = true := by decide +kernel
set_option maxRecDepth 1000000 in
theorem ini2_ok : ini2.isSome = true := by decide +kernel
set_option maxRecDepth 1000000 in
theorem ini_top : ∀ q ∈ topL, gR stI q.1 q.2.1 = q.2.2 := by decide +kernel
set_option maxRecDepth 1000000 in
theorem ini_a : gI stI 24 7 = nI 255 ∧ gI stI 153 53 = nI 255 ∧ (∀ k, k < 64 → gI stI 26 k = -nI 1) := by decide +kernel
