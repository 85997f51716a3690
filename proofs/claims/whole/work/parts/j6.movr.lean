/-! PURE: axes: reference, a move -/
theorem nI64 {x : Nat} (h : x < 2147483648) : (nI x).toInt64 = lN x := by rw [nI_z h, zI_l (by omega), lN_z (by omega)]
theorem nI_p1 {x : Nat} (h : x < 2147483647) : nI (x + 1) + (-1) = nI x := by
  show nI (x + 1) + zI (-1) = nI x
  rw [nI_z (by omega), zI_add, nI_z (by omega)]
  congr 1
  omega
theorem brake_r {st : St} (fu : Nat) {a x : Nat} (ha : 1 ≤ a) (ha2 : a ≤ 999) (hx : x ≤ 2000) : f_X12_brake fu (lN x) (lN a) st = some (lN (brk a x x), st) := by
  have lc : (0 < lg_cmp (lN x) (lN a)) = (a < x) := by rw [show (0 : Int32) = nI 0 from rfl, LC.2.2.2.2.2.1, llt (by omega)]
  unfold f_X12_brake
  rw [itq lc]
  by_cases c : a < x
  · rw [if_pos c]
    obtain ⟨b1, b2, b3, b4⟩ := dst_b ha hx
    have cc := dst_c ha x
    have t2 := tri_2 ((x - 1) / a)
    have a0 : ¬ lN a = 0 := by
      show ¬ lN a = lN 0
      rw [leq (by omega)]; omega
    have e1 : (lN x - 1) / lN a = lN ((x - 1) / a) := by
      rw [show (1 : Int64) = lN 1 from rfl, LF.2.2.1 x 1 (by omega), ldv (by omega)]
    obtain ⟨s, hs⟩ : ∃ s, s = (x - 1) / a := ⟨_, rfl⟩
    rw [← hs] at b2 b3 b4 cc t2 e1
    have e2 : ((lN a * lN s) * (lN s + 1)) / 2 = lN (a * tri s) := by
      rw [show (1 : Int64) = lN 1 from rfl, LF.2.1, LF.2.2.2.1, LF.2.2.2.1, show a * s * (s + 1) = 2 * (a * tri s) by rw [Nat.mul_assoc, t2, Nat.mul_left_comm], show (2 : Int64) = lN 2 from rfl, ldv (by omega), show 2 * (a * tri s) / 2 = a * tri s by omega]
    have db : dst a x = x + brk a x x := rfl
    rw [ck_t a0, e1, bd_e, ck_t (by decide), e2, LF.2.2.2.1, LF.2.2.1 _ _ (by omega), show s * x - a * tri s = brk a x x by omega]
  · rw [if_neg c, brk_d ha, if_neg c]
    rfl
theorem spN_a {a : Nat} {v : Int} (h : 0 < v) (h2 : 0 < v - a) : spN a v = v - a := by unfold spN; rw [if_pos h, if_pos h2]
theorem spN_b {a : Nat} {v : Int} (h : 0 < v) (h2 : ¬ 0 < v - a) : spN a v = 0 := by unfold spN; rw [if_pos h, if_neg h2]
theorem spN_c {a : Nat} {v : Int} (h : ¬ 0 < v) (h2 : v + a < 0) : spN a v = v + a := by unfold spN; rw [if_neg h, if_pos h2]
theorem spN_d {a : Nat} {v : Int} (h : ¬ 0 < v) (h2 : ¬ v + a < 0) : spN a v = 0 := by unfold spN; rw [if_neg h, if_neg h2]
def tgN (p x : Int) : Option Nat → Int32
  | none => -nI 1
  | some t => if p + x = t ∧ x = 0 then -nI 1 else nI t
def mvR (n : Nat) (p x : Int) (T : Int32) (st : St) : St := sI (sI (sI st 204 n (zI x)) 203 n (zI (p + x))) 205 n T
theorem r275 {st : St} (hT : Top st) {n : Nat} {p x : Int} (hn : n < 8) (hp : 0 ≤ p ∧ p ≤ 99999) (hx : -2000 ≤ x ∧ x ≤ 2000) (h5 : gI st 203 n = zI p) {tg : Option Nat} (h7 : gI st 205 n = tgI tg) (ht : ∀ t, tg = some t → t ≤ 99999) (fu : Nat) : b_X12_moveAxis_275 fu 153 (nI n) (sI st 204 n (zI x)) = some (mvR n p x (tgN p x tg) st) := by
  obtain ⟨s0, hs0⟩ : ∃ s0, s0 = sI st 204 n (zI x) := ⟨_, rfl⟩
  obtain ⟨s7, hs7⟩ : ∃ s7, s7 = sI s0 203 n (zI (p + x)) := ⟨_, rfl⟩
  have hT0 : Top s0 := hT.r (by rw [hs0]; rfl)
  have hT7 : Top s7 := hT0.r (by rw [hs7]; rfl)
  have g5 : gI s0 203 n = zI p := by rw [hs0, gI_sI_n _ _ _ (by decide)]; exact h5
  have g6 : gI s0 204 n = zI x := by rw [hs0, gI_sI, if_pos ⟨rfl, rfl⟩]
  have k5 : gI s7 203 n = zI (p + x) := by rw [hs7, gI_sI, if_pos ⟨rfl, rfl⟩]
  have k6 : gI s7 204 n = zI x := by rw [hs7, gI_sI_n _ _ _ (by decide)]; exact g6
  have k7 : gI s7 205 n = tgI tg := by rw [hs7, gI_sI_n _ _ _ (by decide), hs0, gI_sI_n _ _ _ (by decide)]; exact h7
  have ib : inb (nI n) 8 := by simp (disch := first | decide | omega) [NF, NC, NB, inb]
  have ia : ix (nI n) = n := ixN (by omega)
  have r59 := tp_153_59 hT0
  have r60 := tp_153_60 hT0
  have q59 := tp_153_59 hT7
  have q60 := tp_153_60 hT7
  have q61 := tp_153_61 hT7
  have fin : sI s7 205 n (tgI tg) = s7 := by rw [← k7]; exact sI_id _ _ _
  unfold b_X12_moveAxis_275 b_X12_moveAxis_331 mvR
  rw [← hs0, r59, ck_t (show ¬ 203 = 0 by decide), ck_t (show (kd 153).1 = 12 from rfl), bd_e, ck_t (show (kd 203).1 = 100 ∧ inb (nI n) (kd 203).2 from ⟨rfl, ib⟩), r60, ck_t (show ¬ 204 = 0 by decide), ck_t (show (kd 153).1 = 12 from rfl), bd_e, ck_t (show (kd 204).1 = 100 ∧ inb (nI n) (kd 204).2 from ⟨rfl, ib⟩), ck_t (show (kd 203).1 = 100 ∧ inb (nI n) (kd 203).2 from ⟨rfl, ib⟩), ia, g5, g6, zI_add, ← hs7, bd_e, q61, ck_t (show ¬ 205 = 0 by decide), ck_t (show (kd 153).1 = 12 from rfl), bd_e, ck_t (show (kd 205).1 = 100 ∧ inb (nI n) (kd 205).2 from ⟨rfl, ib⟩), k7]
  cases tg with
  | none =>
    rw [if_pos (show tgI none = -1 from rfl)]
    show some s7 = some (sI s7 205 n (tgI none))
    rw [fin]
  | some t =>
    have t9 := ht t rfl
    have fin : sI s7 205 n (nI t) = s7 := fin
    have k7 : gI s7 205 n = nI t := k7
    have e1 : (zI (p + x) = nI t) = (p + x = t) := by rw [nI_z (by omega), zI_eq (by omega)]
    have e2 : (zI x = (0 : Int32)) = (x = 0) := by rw [zI0, zI_eq (by omega)]
    rw [if_neg (show ¬ tgI (some t) = -1 from fun z => m1N (N := t) (by omega) (show (-nI 1 : Int32) = nI t from z.symm)), q59, ck_t (show ¬ 203 = 0 by decide), ck_t (show (kd 153).1 = 12 from rfl), bd_e, ck_t (show (kd 203).1 = 100 ∧ inb (nI n) (kd 203).2 from ⟨rfl, ib⟩), ck_t (show ¬ 205 = 0 by decide), ck_t (show (kd 153).1 = 12 from rfl), bd_e, ck_t (show (kd 205).1 = 100 ∧ inb (nI n) (kd 205).2 from ⟨rfl, ib⟩), k5, k7, itq e1]
    show (if p + x = t then _ else _) = some (sI s7 205 n (if p + x = t ∧ x = 0 then -nI 1 else nI t))
    by_cases c : p + x = t
    · rw [if_pos c, q60, ck_t (show ¬ 204 = 0 by decide), ck_t (show (kd 153).1 = 12 from rfl), bd_e, ck_t (show (kd 204).1 = 100 ∧ inb (nI n) (kd 204).2 from ⟨rfl, ib⟩), k6, itq e2]
      by_cases d : x = 0
      · rw [if_pos d, if_pos ⟨c, d⟩, ck_t (show ¬ 205 = 0 by decide), ck_t (show (kd 153).1 = 12 from rfl), bd_e, ck_t (show (kd 205).1 = 100 ∧ inb (nI n) (kd 205).2 from ⟨rfl, ib⟩), bd_e]; rfl
      · rw [if_neg d, if_neg (fun z => d z.2), fin]
    · rw [if_neg c, if_neg (fun z => c z.1), fin]
/-- counting down -/
theorem r216 {st : St} {a d least : Nat} (ha : 1 ≤ a) (ha2 : a ≤ 999) (hd : d ≤ 100000) (hl : least ≤ 999) (fu n : Nat) (x4 : Int32) : ∀ (F top : Nat), top ≤ 2000 → top + 1 < F → b_X12_moveAxis_216 fu F 153 (nI n) (nI a) x4 (nI d) (nI top) (nI least) st = b_X12_moveAxis_264 fu 153 (nI n) x4 (nI (bst a d least top)) st
  | 0, top, h1, h2 => by omega
  | F + 1, top, h1, h2 => by
    have un : b_X12_moveAxis_216 fu (F + 1) 153 (nI n) (nI a) x4 (nI d) (nI top) (nI least) st = b_X12_moveAxis_216_b fu (b_X12_moveAxis_216 fu F) 153 (nI n) (nI a) x4 (nI d) (nI top) (nI least) st := rfl
    have b := dst_b ha h1
    have db : dst a top = top + brk a top top := rfl
    have lc : (lg_cmp (lN (dst a top)) (lN d) ≤ 0) = (dst a top ≤ d) := by rw [show (0 : Int32) = nI 0 from rfl, LC.2.2.2.2.1, lle (by omega)]
    rw [un]
    unfold b_X12_moveAxis_216_b b_X12_moveAxis_248 b_X12_moveAxis_262
    by_cases c : top < least
    · rw [if_pos ((nI_ltI (by omega) (by omega)).mpr c), if_neg (fun q => by have := (nI_leI (a := least) (b := top) (by omega) (by omega)).mp q; omega), bst_l ha top (Or.inl (by omega))]
    · rw [if_neg (fun q => c ((nI_ltI (by omega) (by omega)).mp q)), nI64 (by omega), nI64 (by omega), nI64 (by omega), brake_r fu ha ha2 h1, ca_s, LF.2.1, ← db, itq lc]
      have ge : nI least ≤ nI top := (nI_leI (by omega) (by omega)).mpr (by omega)
      cases top with
      | zero =>
        rw [dst_0, if_pos (by omega), if_pos ge]
        have : least = 0 := by omega
        rw [this]; rfl
      | succ x =>
        show _ = b_X12_moveAxis_264 fu 153 (nI n) x4 (nI (if x + 1 < least then least else if dst a (x + 1) ≤ d then x + 1 else bst a d least x)) st
        rw [if_neg c]
        by_cases q : dst a (x + 1) ≤ d
        · rw [if_pos q, if_pos q, if_pos ge]
        · rw [if_neg q, if_neg q, nI_p1 (show x < 2147483647 by omega), bd_e]
          exact r216 ha ha2 hd hl fu n x4 F x (by omega) (by omega)
theorem move_r {st : St} (hT : Top st) {n a sp fl : Nat} {p v : Int} {tg : Option Nat} (hn : n < 8) (h3 : gI st 201 n = nI sp) (h4 : gI st 202 n = nI a) (h10 : gI st 208 n = nI fl) (s1 : 1 ≤ sp) (s2 : sp ≤ 999) (ha : 1 ≤ a) (ha2 : a ≤ 999) (hf : fl ≤ 7) (h5 : gI st 203 n = zI p) (h6 : gI st 204 n = zI v) (h7 : gI st 205 n = tgI tg) (ht : ∀ t, tg = some t → t ≤ 99999) (hp : 0 ≤ p ∧ p ≤ 99999) (hv : -999 ≤ v ∧ v ≤ 999) {fu : Nat} (hfu : 3000 ≤ fu) : f_X12_moveAxis fu 153 (nI n) st = some (mvR n p (mvV a (tpS sp fl) p v tg) (mvT a (tpS sp fl) p v tg) st) := by
  have ib : inb (nI n) 8 := by simp (disch := first | decide | omega) [NF, NC, NB, inb]
  have ia : ix (nI n) = n := ixN (by omega)
  have r57 := tp_153_57 hT
  have r58 := tp_153_58 hT
  have r59 := tp_153_59 hT
  have r60 := tp_153_60 hT
  have r61 := tp_153_61 hT
  have r64 := tp_153_64 hT
  have e0 : (zI v ≤ (0 : Int32)) = (v ≤ 0) := by rw [zI0, zI_le (by omega)]
  unfold f_X12_moveAxis
  rw [r58, ck_t (show ¬ 202 = 0 by decide), ck_t (show (kd 153).1 = 12 from rfl), bd_e, ck_t (show (kd 202).1 = 100 ∧ inb (nI n) (kd 202).2 from ⟨rfl, ib⟩), ia, h4, bd_e, r60, ck_t (show ¬ 204 = 0 by decide), ck_t (show (kd 153).1 = 12 from rfl), bd_e, ck_t (show (kd 204).1 = 100 ∧ inb (nI n) (kd 204).2 from ⟨rfl, ib⟩), h6, bd_e, r61, ck_t (show ¬ 205 = 0 by decide), ck_t (show (kd 153).1 = 12 from rfl), bd_e, ck_t (show (kd 205).1 = 100 ∧ inb (nI n) (kd 205).2 from ⟨rfl, ib⟩), h7]
  cases tg with
  | none =>
    have k61 : ∀ x : Int, -1000 ≤ x → x ≤ 1000 → b_X12_moveAxis_61 fu 153 (nI n) 204 (nI n) (zI x) st = some (mvR n p x (-nI 1) st) := fun x xa xb => by
      have := r275 hT (x := x) hn hp (by omega) h5 h7 ht fu
      unfold b_X12_moveAxis_61
      rw [ck_t (show (kd 204).1 = 100 ∧ inb (nI n) (kd 204).2 from ⟨rfl, ib⟩), ia, bd_e]
      exact this
    rw [if_pos (show tgI none = -1 from rfl), ck_t (show ¬ 204 = 0 by decide), ck_t (show (kd 153).1 = 12 from rfl), bd_e, itq e0]
    show _ = some (mvR n p (spN a v) (-nI 1) st)
    by_cases c : v ≤ 0
    · have e1 : (-nI a ≤ zI v) = (-(a : Int) ≤ v) := by rw [nI_z (by omega), zI_neg, zI_le (by omega)]
      rw [if_pos c, itq e1]
      by_cases d : -(a : Int) ≤ v
      · rw [if_pos d, spN_d (by omega) (by omega), zI0]; exact k61 0 (by omega) (by omega)
      · rw [if_neg d, spN_c (by omega) (by omega), show zI v + nI a = zI (v + a) by rw [nI_z (by omega), zI_add]]; exact k61 _ (by omega) (by omega)
    · have e1 : (zI v ≤ nI a) = (v ≤ (a : Int)) := by rw [nI_z (by omega), zI_le (by omega)]
      rw [if_neg c, itq e1]
      by_cases d : v ≤ (a : Int)
      · rw [if_pos d, spN_b (by omega) (by omega), zI0]; exact k61 0 (by omega) (by omega)
      · rw [if_neg d, spN_a (by omega) (by omega), show zI v - nI a = zI (v - a) by rw [nI_z (by omega), zI_sub]]; exact k61 _ (by omega) (by omega)
  | some t =>
    have t9 := ht t rfl
    have h7' : gI st 205 n = nI t := h7
    obtain ⟨m1, m2⟩ := tpS_b (fl := fl) s1 s2
    obtain ⟨M, hM⟩ : ∃ M, M = tpS sp fl := ⟨_, rfl⟩
    rw [← hM] at m1 m2 ⊢
    -- side y, way d, speed W on that side
    have k264 : ∀ (y X : Int), (y = 1 ∨ y = -1) → -1000 ≤ X → X ≤ 1000 → b_X12_moveAxis_264 fu 153 (nI n) (zI y) (zI X) st = some (mvR n p (X * y) (if p + X * y = t ∧ X * y = 0 then -nI 1 else nI t) st) := fun y X hy xa xb => by
      have b : -1000 ≤ X * y ∧ X * y ≤ 1000 := by rcases hy with rfl | rfl <;> omega
      have := r275 hT (x := X * y) hn hp (by omega) h5 h7 ht fu
      unfold b_X12_moveAxis_264
      rw [r60, ck_t (show ¬ 204 = 0 by decide), ck_t (show (kd 153).1 = 12 from rfl), bd_e, ck_t (show (kd 204).1 = 100 ∧ inb (nI n) (kd 204).2 from ⟨rfl, ib⟩), ia, zI_mul, bd_e]
      exact this
    have k155 : ∀ (y W : Int) (d : Nat), (y = 1 ∨ y = -1) → -999 ≤ W → W ≤ 999 → d ≤ 100000 → b_X12_moveAxis_155 fu 153 (nI n) (nI a) (zI W) (zI y) (nI d) (nI M) st = some (mvR n p ((if W < 0 then (if W + a < 0 then W + a else 0) else ((spd a M d W.toNat : Nat) : Int)) * y) (if p + ((if W < 0 then (if W + a < 0 then W + a else 0) else ((spd a M d W.toNat : Nat) : Int)) * y) = t ∧ ((if W < 0 then (if W + a < 0 then W + a else 0) else ((spd a M d W.toNat : Nat) : Int)) * y) = 0 then -nI 1 else nI t) st) := fun y W d hy wa wb hd => by
      have e1 : ((0 : Int32) ≤ zI W) = (0 ≤ W) := by rw [zI0, zI_le (by omega)]
      have e2 : zI W + nI a = zI (W + a) := by rw [nI_z (by omega), zI_add]
      have e3 : (zI (W + a) ≤ (0 : Int32)) = (W + a ≤ 0) := by rw [zI0, zI_le (by omega)]
      unfold b_X12_moveAxis_155
      rw [itq e1, e2, itq e3]
      by_cases c : 0 ≤ W
      · obtain ⟨w, hw⟩ : ∃ w : Nat, W = (w : Int) := ⟨W.toNat, by omega⟩
        subst hw
        have e4 : zI ((w : Int) + a) = nI (w + a) := by rw [nI_z (by omega)]; congr 1
        have e5 : zI (w : Int) - nI a = zI ((w : Int) - a) := by rw [nI_z (by omega), zI_sub]
        have e6 : (zI ((w : Int) - a) ≤ (0 : Int32)) = ((w : Int) - a ≤ 0) := by rw [zI0, zI_le (by omega)]
        have sb := spd_b (a := a) (d := d) (w := w) m2 (by omega)
        have k195 : ∀ T, T ≤ 2000 → b_X12_moveAxis_195 fu 153 (nI n) (nI a) (zI (w : Int)) (zI y) (nI d) (nI T) st = b_X12_moveAxis_264 fu 153 (nI n) (zI y) (nI (bst a d (w - a) T)) st := fun T hT' => by
          unfold b_X12_moveAxis_195 b_X12_moveAxis_210
          rw [e5, itq e6]
          by_cases z : (w : Int) - a ≤ 0
          · rw [if_pos z, show (0 : Int32) = nI (w - a) by rw [show w - a = 0 by omega]; rfl]
            exact r216 ha ha2 hd (by omega) fu n (zI y) fu T hT' (by omega)
          · rw [if_neg z, show zI ((w : Int) - a) = nI (w - a) by rw [nI_z (by omega)]; congr 1; omega]
            exact r216 ha ha2 hd (by omega) fu n (zI y) fu T hT' (by omega)
        rw [if_pos c, e4, if_neg (show ¬ (w : Int) < 0 by omega), show ((w : Int)).toNat = w by omega]
        have fin := k264 y ((spd a M d w : Nat) : Int) hy (by omega) (by omega)
        rw [← nI_z (by omega)] at fin
        rw [← fin]
        unfold spd
        by_cases q : w + a < M
        · rw [if_neg (fun z => by have := (nI_leI (a := M) (b := w + a) (by omega) (by omega)).mp z; omega), if_pos q]
          exact k195 (w + a) (by omega)
        · rw [if_pos ((nI_leI (a := M) (b := w + a) (by omega) (by omega)).mpr (by omega)), if_neg q]
          exact k195 M (by omega)
      · unfold b_X12_moveAxis_174
        rw [if_neg c, if_pos (show W < 0 by omega)]
        by_cases q : W + a ≤ 0
        · rw [if_pos q]
          by_cases z : W + a < 0
          · rw [if_pos z]; exact k264 y _ hy (by omega) (by omega)
          · rw [if_neg z, show W + (a : Int) = 0 by omega]; exact k264 y 0 hy (by omega) (by omega)
        · rw [if_neg q, if_neg (by omega), zI0]; exact k264 y 0 hy (by omega) (by omega)
    have k85 : ∀ (y : Int), (y = 1 ∨ y = -1) → 0 ≤ ((t : Int) - p) * y → b_X12_moveAxis_85 fu 153 (nI n) (nI a) (zI v) (zI y) st = b_X12_moveAxis_155 fu 153 (nI n) (nI a) (zI (v * y)) (zI y) (nI (((t : Int) - p) * y).toNat) (nI M) st := fun y hy hd => by
      have fd : ∀ fl, fl ≤ 7 → ((nI fl / 4 - nI fl / 4 / 2 * 2 = (1 : Int32)) ↔ fl / 4 % 2 = 1) := by decide +kernel
      have fd := fd fl hf
      have db : ((t : Int) - p) * y ≤ 100000 := by rcases hy with rfl | rfl <;> omega
      have k141 : ∀ X, X ≤ 999 → b_X12_moveAxis_141 fu 153 (nI n) (nI a) (zI (v * y)) (zI y) (zI (((t : Int) - p) * y)) (nI X) st = b_X12_moveAxis_155 fu 153 (nI n) (nI a) (zI (v * y)) (zI y) (nI (((t : Int) - p) * y).toNat) (nI (if X < 1 then 1 else X)) st := fun X hX => by
        unfold b_X12_moveAxis_141
        rw [zI_n hd (by omega)]
        by_cases q : X < 1
        · rw [if_pos q, if_neg (fun z => by have := (nI_leI (a := 1) (b := X) (by omega) (by omega)).mp z; omega)]; rfl
        · rw [if_neg q, if_pos (show (1 : Int32) ≤ nI X from (nI_leI (a := 1) (b := X) (by omega) (by omega)).mpr (by omega))]
      unfold b_X12_moveAxis_85
      rw [r61, ck_t (show ¬ 205 = 0 by decide), ck_t (show (kd 153).1 = 12 from rfl), bd_e, ck_t (show (kd 205).1 = 100 ∧ inb (nI n) (kd 205).2 from ⟨rfl, ib⟩), r59, ck_t (show ¬ 203 = 0 by decide), ck_t (show (kd 153).1 = 12 from rfl), bd_e, ck_t (show (kd 203).1 = 100 ∧ inb (nI n) (kd 203).2 from ⟨rfl, ib⟩), ia, h7', h5, nI_z (show t < 2147483648 by omega), zI_sub, zI_mul, bd_e, zI_mul, bd_e, r64, ck_t (show ¬ 208 = 0 by decide), ck_t (show (kd 153).1 = 12 from rfl), bd_e, ck_t (show (kd 208).1 = 100 ∧ inb (nI n) (kd 208).2 from ⟨rfl, ib⟩), ck_t (by decide), ck_t (by decide), h10, r57, ck_t (show ¬ 201 = 0 by decide), ck_t (show (kd 153).1 = 12 from rfl), bd_e, ck_t (show (kd 201).1 = 100 ∧ inb (nI n) (kd 201).2 from ⟨rfl, ib⟩), h3]
      rw [hM]
      unfold tpS
      by_cases q : fl / 4 % 2 = 1
      · rw [if_pos (fd.mpr q), if_pos q, ck_t (by decide), show (2 : Int32) = nI 2 from rfl, pk_div (by omega) (by omega) (by omega)]
        exact k141 (sp / 2) (by omega)
      · rw [if_neg (fun z => q (fd.mp z)), if_neg q, ck_t (show ¬ 201 = 0 by decide), ck_t (show (kd 153).1 = 12 from rfl), bd_e, ck_t (show (kd 201).1 = 100 ∧ inb (nI n) (kd 201).2 from ⟨rfl, ib⟩), h3]
        have := k141 sp (by omega)
        rw [if_neg (show ¬ sp < 1 by omega)] at this
        exact this
    have go : ∀ X : Int, X = spT a M p v t → some (mvR n p X (if p + X = t ∧ X = 0 then -nI 1 else nI t) st) = some (mvR n p (mvV a M p v (some t)) (mvT a M p v (some t)) st) := fun X hX => by
      subst hX; rfl
    have el : (nI t < zI p) = ((t : Int) < p) := by rw [nI_z (by omega), zI_lt (by omega)]
    rw [if_neg (show ¬ tgI (some t) = -1 from fun z => m1N (N := t) (by omega) (show (-nI 1 : Int32) = nI t from z.symm)), ck_t (show ¬ 205 = 0 by decide), ck_t (show (kd 153).1 = 12 from rfl), bd_e, ck_t (show (kd 205).1 = 100 ∧ inb (nI n) (kd 205).2 from ⟨rfl, ib⟩), r59, ck_t (show ¬ 203 = 0 by decide), ck_t (show (kd 153).1 = 12 from rfl), bd_e, ck_t (show (kd 203).1 = 100 ∧ inb (nI n) (kd 203).2 from ⟨rfl, ib⟩), h5, h7', itq el]
    by_cases c : (t : Int) < p
    · rw [if_pos c, show (-1 : Int32) = zI (-1) from rfl, k85 (-1) (Or.inr rfl) (by omega), k155 (-1) (v * -1) _ (Or.inr rfl) (by omega) (by omega) (by omega)]
      apply go
      rw [show v * -1 = -v by omega, show (((t : Int) - p) * -1).toNat = (p - (t : Int)).toNat by omega]
      by_cases q : -v < 0
      · rw [if_pos q, spT_1 c q]; omega
      · rw [if_neg q, spT_2 c q]; omega
    · rw [if_neg c, show (1 : Int32) = zI 1 from rfl, k85 1 (Or.inl rfl) (by omega), k155 1 (v * 1) _ (Or.inl rfl) (by omega) (by omega) (by omega)]
      apply go
      rw [show v * 1 = v by omega, show (((t : Int) - p) * 1).toNat = ((t : Int) - p).toNat by omega]
      by_cases q : v < 0
      · rw [if_pos q, spT_3 c q]; omega
      · rw [if_neg q, spT_4 c q]; omega
