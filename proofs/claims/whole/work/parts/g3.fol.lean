/-! PURE: lists: what follows -/
def nx1 (c k : Nat) : Option Nat := if k < c then some k else none
def fol (D : LD) (c : Nat) : Option Nat → Option Nat
  | none => nx1 c 0
  | some i => if D 5 i = 0 then nx1 c (i + 1) else match fnd D (D 5 i) c 0 with
    | some m => some m
    | none => nx1 c (i + 1)
theorem nx1_s {c k m : Nat} (h : nx1 c k = some m) : m < c := by
  unfold nx1 at h
  by_cases q : k < c
  · rw [if_pos q] at h
    have := Option.some.inj h
    omega
  · rw [if_neg q] at h; cases h
theorem fol_s {D : LD} {c m : Nat} {cu : Option Nat} (h : fol D c cu = some m) : m < c := by
  cases cu with
  | none => exact nx1_s (k := 0) h
  | some i =>
    have h' : (if D 5 i = 0 then nx1 c (i + 1) else match fnd D (D 5 i) c 0 with | some m => some m | none => nx1 c (i + 1)) = some m := h
    by_cases q : D 5 i = 0
    · rw [if_pos q] at h'; exact nx1_s h'
    · rw [if_neg q] at h'
      rcases hF : fnd D (D 5 i) c 0 with _ | m'
      · rw [hF] at h'; exact nx1_s h'
      · rw [hF] at h'
        have := Option.some.inj h'
        have := fnd_s hF
        omega
theorem fol62 {st : St} (hT : Top st) {l q c k : Nat} (hl : l < 4) (hq : SQ q) (rQ : gR st (43 + 18 * l) 0 = q) (s1 : gI st q 12 = nI c) (hc : c ≤ 60) (hk : k ≤ 60) (h5 : gI st (43 + 18 * l) 5 + 1 = nI k) (fu : Nat) : b_X3_following_62 fu (43 + 18 * l) st = some (oI (nx1 c k), st) := by
  obtain ⟨k0, -⟩ := plK hl
  have qb := hq.b
  have qK := (sqK hq).1
  unfold b_X3_following_62
  rw [rQ, ck_t (show (kd (43 + 18 * l)).1 = 3 by rw [k0]), ck_t (show ¬ q = 0 by omega), ck_t (show (kd (43 + 18 * l)).1 = 3 by rw [k0]), bd_e, ck_t (show (kd q).1 = 8 by rw [qK]), s1, h5]
  unfold nx1
  by_cases z : k < c
  · rw [if_neg (fun w => by have := (nI_leI (a := c) (b := k) (by omega) (by omega)).mp w; omega), if_pos z, ck_t (show (kd (43 + 18 * l)).1 = 3 by rw [k0])]
    rfl
  · rw [if_pos ((nI_leI (by omega) (by omega)).mpr (by omega)), if_neg z]
    rfl
theorem fol_c {st : St} (hT : Top st) {l q c a : Nat} {D : LD} {cu : Option Nat} (hl : l < 4) (hq : SQ q) (rQ : gR st (43 + 18 * l) 0 = q) (hS : SC q c a D st) (hL : LOK c a D) (h5 : gI st (43 + 18 * l) 5 = oI cu) (hu : ∀ i, cu = some i → i < c) {fu : Nat} (hf : 100 ≤ fu) : f_X3_following fu (43 + 18 * l) st = some (oI (fol D c cu), st) := by
  obtain ⟨k0, -⟩ := plK hl
  have qb := hq.b
  have qK := sqK hq
  have qR := sqR hq hT
  have c60 := hL.1
  have s1 := hS.1
  cases cu with
  | none =>
    have e := fol62 hT hl hq rQ s1 c60 (k := 0) (by omega) (by rw [h5]; decide) fu
    have h5' : gI st (43 + 18 * l) 5 = -nI 1 := h5
    clear hS hL h5 hu
    show _ = some (oI (nx1 c 0), st)
    simp (disch := first | decide | omega) [↓bd_e, isb, ck_tt, NP, NF, NC, NB, NS, GS, kdC, tpC hT, f_X3_following, k0, h5', e]
  | some i =>
    have hi := hu i rfl
    have h5' : gI st (43 + 18 * l) 5 = nI i := h5
    have e := fol62 hT hl hq rQ s1 c60 (k := i + 1) (by omega) (by rw [h5']; exact nI_add i 1) fu
    have u5 : gI st (q + 6) i = nI (D 5 i) := hS.2.1 i hi 5 (by omega)
    have b5 : D 5 i ≤ 99999 := (hL.2.2.2.2.1 i hi).1.2.2.2.2.2.2
    have fc := find_c hT hq hS hL hf (x := D 5 i) (by omega)
    clear hS hL h5 hu
    show _ = some (oI (if D 5 i = 0 then nx1 c (i + 1) else match fnd D (D 5 i) c 0 with | some m => some m | none => nx1 c (i + 1)), st)
    by_cases z : D 5 i = 0
    · rw [if_pos z]
      simp (disch := first | decide | omega) [↓bd_e, isb, ck_tt, NP, NF, NC, NB, NS, GS, kdC, tpC hT, f_X3_following, k0, h5', rQ, qK, qR, s1, u5, z, e]
    · rw [if_neg z]
      rcases hF : fnd D (D 5 i) c 0 with _ | m
      · rw [hF] at fc
        have fc' : f_X8_find fu q (nI (D 5 i)) st = some (-nI 1, st) := fc
        simp (disch := first | decide | omega) [↓bd_e, isb, ck_tt, NP, NF, NC, NB, NS, GS, kdC, tpC hT, f_X3_following, k0, h5', rQ, qK, qR, s1, u5, z, ↓caO fc', e]
      · rw [hF] at fc
        have fc' : f_X8_find fu q (nI (D 5 i)) st = some (nI m, st) := fc
        have := fnd_s hF
        show _ = some (nI m, st)
        simp (disch := first | decide | omega) [↓bd_e, isb, ck_tt, NP, NF, NC, NB, NS, GS, kdC, tpC hT, f_X3_following, k0, h5', rQ, qK, qR, s1, u5, z, ↓caO fc']
/-- the reference goes -/
def goR (fu l : Nat) (st : St) : Option Nat → Option (Int32 × St)
  | some m => cv (f_X12_plays fu 153 (nI l) (nI m) (nI 0) st) fun s => some (nI 1, s)
  | none => some (nI 0, sI st 188 l (if gI st 188 l = gI st 153 40 then -nI 1 else gI st 188 l))
theorem go70 {st : St} (hT : Top st) {l c k : Nat} (hl : l < 4) (s1 : gI st 158 l = nI c) (hc : c ≤ 60) (hk : k ≤ 60) (fu : Nat) : b_X12_goes_70 fu 153 (nI l) (nI k) st = goR fu l st (nx1 c k) := by
  unfold nx1
  by_cases z : k < c
  · rw [if_pos z]
    unfold goR
    simp (disch := first | decide | omega) [↓bd_e, isb, ck_tt, NP, NF, NC, NB, NS, GS, kdR, tpR hT, b_X12_goes_70, s1]
  · rw [if_neg z]
    unfold goR
    by_cases w : gI st 188 l = gI st 153 40
    · rw [if_pos w]
      simp (disch := first | decide | omega) [↓bd_e, isb, ck_tt, NP, NF, NC, NB, NS, GS, kdR, tpR hT, b_X12_goes_70, b_X12_goes_108, s1, w]
    · rw [if_neg w]
      simp (disch := first | decide | omega) [↓bd_e, isb, ck_tt, NP, NF, NC, NB, NS, GS, kdR, tpR hT, b_X12_goes_70, b_X12_goes_108, s1, w]
theorem goes_r {st : St} (hT : Top st) {l c a : Nat} {D : LD} {cu : Option Nat} (hl : l < 4) (hK : RK l c a D st) (hL : LOK c a D) (h5 : gI st 186 l = oI cu) (hu : ∀ i, cu = some i → i < c) {fu : Nat} (hf : 100 ≤ fu) : f_X12_goes fu 153 (nI l) st = goR fu l st (fol D c cu) := by
  have c60 := hL.1
  have s1 := hK.1
  cases cu with
  | none =>
    have e := go70 hT hl s1 c60 (k := 0) (by omega) fu
    have h5' : gI st 186 l = -nI 1 := h5
    clear hK hL h5 hu
    show _ = goR fu l st (nx1 c 0)
    rw [← e]
    simp (disch := first | decide | omega) [↓bd_e, isb, ck_tt, NP, NF, NC, NB, NS, GS, kdR, tpR hT, f_X12_goes, b_X12_goes_19, h5']
  | some i =>
    have hi := hu i rfl
    have h5' : gI st 186 l = nI i := h5
    have e := go70 hT hl s1 c60 (k := i + 1) (by omega) fu
    have u5 : gI st 164 (l * 60 + i) = nI (D 5 i) := (hK.2.1 i hi).1 5 (by omega)
    have b5 : D 5 i ≤ 99999 := (hL.2.2.2.2.1 i hi).1.2.2.2.2.2.2
    have fc := cueOf_r hT hl hK hL hf (x := D 5 i) (by omega)
    clear hK hL h5 hu
    show _ = goR fu l st (if D 5 i = 0 then nx1 c (i + 1) else match fnd D (D 5 i) c 0 with | some m => some m | none => nx1 c (i + 1))
    by_cases z : D 5 i = 0
    · rw [if_pos z, ← e]
      simp (disch := first | decide | omega) [↓bd_e, isb, ck_tt, NP, NF, NC, NB, NS, GS, kdR, tpR hT, f_X12_goes, b_X12_goes_19, h5', u5, z]
    · rw [if_neg z]
      rcases hF : fnd D (D 5 i) c 0 with _ | m
      · rw [hF] at fc
        have fc' : f_X12_cueOf fu 153 (nI l) (nI (D 5 i)) st = some (-nI 1, st) := fc
        show _ = goR fu l st (nx1 c (i + 1))
        rw [← e]
        simp (disch := first | decide | omega) [↓bd_e, isb, ck_tt, NP, NF, NC, NB, NS, GS, kdR, tpR hT, f_X12_goes, b_X12_goes_19, b_X12_goes_69, h5', u5, z, ↓caO fc']
      · rw [hF] at fc
        have fc' : f_X12_cueOf fu 153 (nI l) (nI (D 5 i)) st = some (nI m, st) := fc
        have hm := fnd_s hF
        have e2 := go70 hT hl s1 c60 (k := m) (by omega) fu
        rw [show nx1 c m = some m from if_pos (by omega)] at e2
        show _ = goR fu l st (some m)
        rw [← e2]
        simp (disch := first | decide | omega) [↓bd_e, isb, ck_tt, NP, NF, NC, NB, NS, GS, kdR, tpR hT, f_X12_goes, b_X12_goes_19, b_X12_goes_69, h5', u5, z, ↓caO fc']
