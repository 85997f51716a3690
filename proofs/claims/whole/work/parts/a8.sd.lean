/-! PURE: the reference in step with the class (no fault yet), and behind a fault -/
abbrev nvt (b : BY) (n t : Nat) : Nat := nv b (pl b n t) (af b n (t + 1) - pl b n t)
def RS (b : BY) (n T t : Nat) (st : St) : Prop := RfA b n T t 0 0 0 st
def RfD (b : BY) (n T f p t s : Nat) (st : St) : Prop := RfA b n T t f p s st ∧ 1 ≤ f ∧ (s = 1 ∨ p < pl b n t)
def OS (b : BY) (n T t : Nat) (st u : St) : Prop := Fr W5 st u ∧ Top u ∧ RS b n T t u
def OD (b : BY) (n T f p t s : Nat) (st u : St) : Prop := Fr W5 st u ∧ Top u ∧ RfD b n T f p t s u
theorem pl_m (b : BY) (n t : Nat) : pl b n t ≤ pl b n (t + 1) := by
  rcases Nat.lt_or_ge (pl b n t) n with q | q
  · have := pl_lt b n t q; omega
  · have pb := pl_b b n t
    have := pl_end b n (show pl b n t = n by omega)
    omega
theorem pl_s {b : BY} {n t : Nat} (h : so b n t ≠ 0) : pl b n t < pl b n (t + 1) := by
  have q : pl b n t < n := by
    apply Classical.byContradiction
    intro hn
    exact h (by rw [so, if_neg hn])
  have := pl_lt b n t q
  omega
theorem nvt_99 {b : BY} {n t : Nat} (h : so b n t = 2) : nvt b n t ≤ 99999 := by
  have q : pl b n t < n := by
    apply Classical.byContradiction
    intro hn
    rw [so, if_neg hn] at h
    exact absurd h (by decide)
  unfold nvt
  rw [af_s, if_pos q]
  unfold so at h
  rw [if_pos q] at h
  unfold tS at h
  by_cases l : isLe (b (pl b n t)) = true
  · rw [if_pos l] at h
    by_cases l2 : tE b n (pl b n t) - pl b n t ≤ 12
    · rw [if_pos l2] at h; omega
    · rw [if_neg l2] at h; omega
  · rw [if_neg l] at h
    by_cases d : isDi (b (pl b n t)) = true
    · rw [if_pos d] at h
      by_cases l2 : 99999 < nv b (pl b n t) (tE b n (pl b n t) - pl b n t) ∨ (tE b n (pl b n t) < n ∧ isLe (b (tE b n (pl b n t))) = true)
      · rw [if_pos l2] at h; omega
      · have : ¬ 99999 < nv b (pl b n t) (tE b n (pl b n t) - pl b n t) := fun e => l2 (Or.inl e)
        omega
    · rw [if_neg d] at h
      rcases sgC_v (b (pl b n t)) with e | ⟨e1, -⟩
      · omega
      · have := (sgL_b _ e1).1; omega
theorem needS_p {st : St} (fu : Nat) (c : Int32) : f_X12_needSign fu 153 c st = ca (f_X12_takeSign fu 153 c st) fun r s => if r = 0 then f_X12_wrong fu 153 s else some s := by
  unfold f_X12_needSign b_X12_needSign_12
  rw [ck_t (show (kd 153).1 = 12 from rfl)]
  congr 1
  funext r s
  by_cases h : r = 0
  · rw [if_pos h, if_pos h, ck_t (show (kd 153).1 = 12 from rfl)]
    cases f_X12_wrong fu 153 s <;> rfl
  · rw [if_neg h, if_neg h]
theorem needW_p {st : St} (fu w : Nat) : f_X12_needWord fu 153 w st = ca (f_X12_takeWord fu 153 w st) fun r s => if r = 0 then f_X12_wrong fu 153 s else some s := by
  unfold f_X12_needWord b_X12_needWord_12
  rw [ck_t (show (kd 153).1 = 12 from rfl)]
  congr 1
  funext r s
  by_cases h : r = 0
  · rw [if_pos h, if_pos h, ck_t (show (kd 153).1 = 12 from rfl)]
    cases f_X12_wrong fu 153 s <;> rfl
  · rw [if_neg h, if_neg h]
theorem W5t {a b c : St} (h1 : Fr W5 a b) (h2 : Fr W5 b c) : Fr W5 a c := (h1.tr h2).wd (by decide)
/-! in step -/
theorem takeS_s {st : St} (hT : Top st) {b : BY} {n T t : Nat} (h : RS b n T t st) (fu : Nat) {c : Nat} (hc : 3 < c) (hc2 : c < 200) : (so b n t = c → ∃ u, f_X12_takeSign fu 153 (nI c) st = some (nI 1, u) ∧ OS b n T (t + 1) st u) ∧ (so b n t ≠ c → ∃ u, f_X12_takeSign fu 153 (nI c) st = some (nI 0, u) ∧ OS b n T t st u) := by
  obtain ⟨a, d⟩ := takeS_r hT h fu hc hc2
  exact ⟨fun e => a ⟨rfl, e⟩, fun e => d (fun x => e x.2)⟩
theorem takeW_s {st : St} (hT : Top st) {b : BY} {n T t : Nat} (h : RS b n T t st) {fu : Nat} (hf : 100 ≤ fu) {w : Nat} (hw : 1 ≤ w) (hw2 : w < 24) : (isW b n t w → ∃ u, f_X12_takeWord fu 153 w st = some (nI 1, u) ∧ OS b n T (t + 1) st u) ∧ (¬ isW b n t w → ∃ u, f_X12_takeWord fu 153 w st = some (nI 0, u) ∧ OS b n T t st u) := by
  obtain ⟨a, d⟩ := takeW_r hT h hf hw hw2
  exact ⟨fun e => a ⟨rfl, e⟩, fun e => d (fun x => e x.2)⟩
theorem wrong_0 {st : St} (hT : Top st) {b : BY} {n T t : Nat} (h : RS b n T t st) (fu : Nat) : ∃ u, f_X12_wrong fu 153 st = some u ∧ OD b n T 1 (pl b n t) t 1 st u := by
  obtain ⟨u, u1, u2, u3, u4⟩ := (wrong_s hT h fu).2.1 rfl (Or.inl rfl)
  exact ⟨u, u1, u2, u3, u4, Nat.le_refl _, Or.inl rfl⟩
theorem needS_s {st : St} (hT : Top st) {b : BY} {n T t : Nat} (h : RS b n T t st) (fu : Nat) {c : Nat} (hc : 3 < c) (hc2 : c < 200) : (so b n t = c → ∃ u, f_X12_needSign fu 153 (nI c) st = some u ∧ OS b n T (t + 1) st u) ∧ (so b n t ≠ c → ∃ u, f_X12_needSign fu 153 (nI c) st = some u ∧ OD b n T 1 (pl b n t) t 1 st u) := by
  obtain ⟨a, d⟩ := takeS_s hT h fu hc hc2
  rw [needS_p]
  refine ⟨fun e => ?_, fun e => ?_⟩
  · obtain ⟨u, u1, u2⟩ := a e
    exact ⟨u, by rw [u1, ca_s, if_neg (by decide)], u2⟩
  · obtain ⟨u, u1, u2, u3, u4⟩ := d e
    obtain ⟨w, w1, w2, w3⟩ := wrong_0 u3 u4 fu
    exact ⟨w, by rw [u1, ca_s, if_pos (by decide)]; exact w1, W5t u2 w2, w3⟩
theorem needW_s {st : St} (hT : Top st) {b : BY} {n T t : Nat} (h : RS b n T t st) {fu : Nat} (hf : 100 ≤ fu) {w : Nat} (hw : 1 ≤ w) (hw2 : w < 24) : (isW b n t w → ∃ u, f_X12_needWord fu 153 w st = some u ∧ OS b n T (t + 1) st u) ∧ (¬ isW b n t w → ∃ u, f_X12_needWord fu 153 w st = some u ∧ OD b n T 1 (pl b n t) t 1 st u) := by
  obtain ⟨a, d⟩ := takeW_s hT h hf hw hw2
  rw [needW_p]
  refine ⟨fun e => ?_, fun e => ?_⟩
  · obtain ⟨u, u1, u2⟩ := a e
    exact ⟨u, by rw [u1, ca_s, if_neg (by decide)], u2⟩
  · obtain ⟨u, u1, u2, u3, u4⟩ := d e
    obtain ⟨w, w1, w2, w3⟩ := wrong_0 u3 u4 fu
    exact ⟨w, by rw [u1, ca_s, if_pos (by decide)]; exact w1, W5t u2 w2, w3⟩
theorem num_s {st : St} (hT : Top st) {b : BY} {n T t : Nat} (h : RS b n T t st) (fu : Nat) {lo hi : Nat} (hl : lo ≤ 100000) (hh : hi ≤ 100000) :
    (so b n t = 2 → lo ≤ nvt b n t → nvt b n t ≤ hi → ∃ u, f_X12_number fu 153 (nI lo) (nI hi) st = some (nI (nvt b n t), u) ∧ OS b n T (t + 1) st u) ∧
    (so b n t = 2 → ¬ (lo ≤ nvt b n t ∧ nvt b n t ≤ hi) → ∃ u, f_X12_number fu 153 (nI lo) (nI hi) st = some (nI (nvt b n t), u) ∧ OD b n T 2 (pl b n t) (t + 1) 0 st u) ∧
    (so b n t ≠ 2 → ∃ u, f_X12_number fu 153 (nI lo) (nI hi) st = some (nI lo, u) ∧ OD b n T 1 (pl b n t) t 1 st u) := by
  obtain ⟨a1, a2, a3, a4⟩ := num_r hT h fu hl hh
  refine ⟨fun e e1 e2 => a1 ⟨rfl, e⟩ ⟨e1, e2⟩, fun e e1 => ?_, fun e => ?_⟩
  · obtain ⟨u, u1, u2, u3, u4⟩ := a2 ⟨rfl, e⟩ e1 (Or.inl rfl)
    exact ⟨u, u1, u2, u3, u4, by omega, Or.inr (pl_s (by omega))⟩
  · obtain ⟨u, u1, u2⟩ := wrong_0 hT h fu
    exact ⟨u, by rw [a4 (fun x => e x.2), u1, cv_s], u2⟩
/-! behind a fault -/
theorem wrong_d {st : St} (hT : Top st) {b : BY} {n T f p t s : Nat} (h : RfD b n T f p t s st) (fu : Nat) : ∃ u, f_X12_wrong fu 153 st = some u ∧ OD b n T f p t 1 st u := by
  obtain ⟨hA, f1, hp⟩ := h
  obtain ⟨a1, -, a3⟩ := wrong_s hT hA fu
  have s1 := hA.2.2.2.2.2.2.2.2
  by_cases c : s = 1
  · subst c
    exact ⟨st, a1 rfl, Fr.rf, hT, hA, f1, Or.inl rfl⟩
  · have hlt : p < pl b n t := by omega
    obtain ⟨u, u1, u2, u3, u4⟩ := a3 (by omega) (by omega)
    exact ⟨u, u1, u2, u3, u4, f1, Or.inl rfl⟩
theorem takeS_d {st : St} (hT : Top st) {b : BY} {n T f p t s : Nat} (h : RfD b n T f p t s st) (fu : Nat) {c : Nat} (hc : 3 < c) (hc2 : c < 200) : ∃ u, (f_X12_takeSign fu 153 (nI c) st = some (nI 1, u) ∧ s = 0 ∧ OD b n T f p (t + 1) s st u) ∨ (f_X12_takeSign fu 153 (nI c) st = some (nI 0, u) ∧ OD b n T f p t s st u) := by
  obtain ⟨hA, f1, hp⟩ := h
  obtain ⟨a, d⟩ := takeS_r hT hA fu hc hc2
  by_cases e : s = 0 ∧ so b n t = c
  · obtain ⟨u, u1, u2, u3, u4⟩ := a e
    have := pl_m b n t
    exact ⟨u, Or.inl ⟨u1, e.1, u2, u3, u4, f1, by omega⟩⟩
  · obtain ⟨u, u1, u2, u3, u4⟩ := d e
    exact ⟨u, Or.inr ⟨u1, u2, u3, u4, f1, hp⟩⟩
theorem takeW_d {st : St} (hT : Top st) {b : BY} {n T f p t s : Nat} (h : RfD b n T f p t s st) {fu : Nat} (hf : 100 ≤ fu) {w : Nat} (hw : 1 ≤ w) (hw2 : w < 24) : ∃ u, (f_X12_takeWord fu 153 w st = some (nI 1, u) ∧ s = 0 ∧ OD b n T f p (t + 1) s st u) ∨ (f_X12_takeWord fu 153 w st = some (nI 0, u) ∧ OD b n T f p t s st u) := by
  obtain ⟨hA, f1, hp⟩ := h
  obtain ⟨a, d⟩ := takeW_r hT hA hf hw hw2
  by_cases e : s = 0 ∧ isW b n t w
  · obtain ⟨u, u1, u2, u3, u4⟩ := a e
    have := pl_m b n t
    exact ⟨u, Or.inl ⟨u1, e.1, u2, u3, u4, f1, by omega⟩⟩
  · obtain ⟨u, u1, u2, u3, u4⟩ := d e
    exact ⟨u, Or.inr ⟨u1, u2, u3, u4, f1, hp⟩⟩
/-- one token further, or stopped -/
def O1 (b : BY) (n T f p t s : Nat) (st u : St) : Prop := (s = 0 ∧ OD b n T f p (t + 1) 0 st u) ∨ OD b n T f p t 1 st u
theorem needS_d {st : St} (hT : Top st) {b : BY} {n T f p t s : Nat} (h : RfD b n T f p t s st) (fu : Nat) {c : Nat} (hc : 3 < c) (hc2 : c < 200) : ∃ u, f_X12_needSign fu 153 (nI c) st = some u ∧ O1 b n T f p t s st u := by
  obtain ⟨u, d⟩ := takeS_d hT h fu hc hc2
  rw [needS_p]
  rcases d with ⟨u1, u0, u2⟩ | ⟨u1, u2, u3, u4⟩
  · subst u0
    exact ⟨u, by rw [u1, ca_s, if_neg (by decide)], Or.inl ⟨rfl, u2⟩⟩
  · obtain ⟨w, w1, w2, w3⟩ := wrong_d u3 u4 fu
    exact ⟨w, by rw [u1, ca_s, if_pos (by decide)]; exact w1, Or.inr ⟨W5t u2 w2, w3⟩⟩
theorem needW_d {st : St} (hT : Top st) {b : BY} {n T f p t s : Nat} (h : RfD b n T f p t s st) {fu : Nat} (hf : 100 ≤ fu) {w : Nat} (hw : 1 ≤ w) (hw2 : w < 24) : ∃ u, f_X12_needWord fu 153 w st = some u ∧ O1 b n T f p t s st u := by
  obtain ⟨u, d⟩ := takeW_d hT h hf hw hw2
  rw [needW_p]
  rcases d with ⟨u1, u0, u2⟩ | ⟨u1, u2, u3, u4⟩
  · subst u0
    exact ⟨u, by rw [u1, ca_s, if_neg (by decide)], Or.inl ⟨rfl, u2⟩⟩
  · obtain ⟨w, w1, w2, w3⟩ := wrong_d u3 u4 fu
    exact ⟨w, by rw [u1, ca_s, if_pos (by decide)]; exact w1, Or.inr ⟨W5t u2 w2, w3⟩⟩
theorem num_d {st : St} (hT : Top st) {b : BY} {n T f p t s : Nat} (h : RfD b n T f p t s st) (fu : Nat) {lo hi : Nat} (hl : lo ≤ 100000) (hh : hi ≤ 100000) : ∃ u v, v ≤ 100000 ∧ f_X12_number fu 153 (nI lo) (nI hi) st = some (nI v, u) ∧ O1 b n T f p t s st u := by
  have h0 := h
  obtain ⟨hA, f1, hp⟩ := h
  obtain ⟨a1, a2, a3, a4⟩ := num_r hT hA fu hl hh
  have := pl_m b n t
  by_cases e : s = 0 ∧ so b n t = 2
  · have vb := nv_le b (pl b n t) (af b n (t + 1) - pl b n t)
    by_cases e1 : lo ≤ nvt b n t ∧ nvt b n t ≤ hi
    · obtain ⟨u, u1, u2, u3, u4⟩ := a1 e e1
      obtain ⟨rfl, -⟩ := e
      exact ⟨u, _, vb, u1, Or.inl ⟨rfl, u2, u3, u4, f1, by omega⟩⟩
    · have hlt : p < pl b n t := by omega
      obtain ⟨u, u1, u2, u3, u4⟩ := a3 e e1 (by omega)
      obtain ⟨rfl, -⟩ := e
      exact ⟨u, _, vb, u1, Or.inl ⟨rfl, u2, u3, u4, f1, by omega⟩⟩
  · obtain ⟨u, u1, u2⟩ := wrong_d hT h0 fu
    exact ⟨u, lo, hl, by rw [a4 e, u1, cv_s], Or.inr u2⟩
/-- a fault told late, at a place before the one that stands -/
theorem tell_o {st : St} (hT : Top st) {b : BY} {n T t f p s : Nat} (h : RfA b n T t f p s st) (fu : Nat) {k q : Nat} (k1 : 1 ≤ k) (k3 : k ≤ 3) (hq : q ≤ n) (hc : f = 0 ∨ q < p ∨ (q = p ∧ k < f)) (hs : s = 1 ∨ q < pl b n t) : ∃ u, f_X12_tell fu 153 (nI k) (nI q) st = some u ∧ OD b n T k q t s st u := by
  obtain ⟨u, u1, u2, u3, u4⟩ := (tell_r hT h fu k1 k3 hq).1 hc
  exact ⟨u, u1, u2, u3, u4, k1, hs⟩
/-- .. and one that comes too late -/
theorem tell_n {st : St} (hT : Top st) {b : BY} {n T f p t s : Nat} (h : RfD b n T f p t s st) (fu : Nat) {k q : Nat} (k1 : 1 ≤ k) (k3 : k ≤ 3) (hq : q ≤ n) (hc : p < q) : f_X12_tell fu 153 (nI k) (nI q) st = some st := (tell_r hT h.1 fu k1 k3 hq).2 (by have := h.2.1; omega)
