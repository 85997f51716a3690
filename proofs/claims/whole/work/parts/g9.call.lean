/-! PURE: lists: a cue is called, a cue waits -/
def armC (l m w : Nat) (st : St) : St := sI (sI (sI (sI st (43 + 18 * l) 5 (nI m)) (43 + 18 * l) 6 (nI 1)) (43 + 18 * l) 7 (nI w)) (43 + 18 * l) 8 (-nI 1)
def armR (l m w : Nat) (st : St) : St := sI (sI (sI (sI st 186 l (nI m)) 188 l (-nI 1)) 187 l (-nI 1)) 187 l (nI w)
theorem arm_c {l : Nat} (hl : l < 4) (fu m w : Nat) (st : St) : f_X3_arm fu (43 + 18 * l) (nI m) (nI w) st = some (armC l m w st) := by
  obtain ⟨k0, -⟩ := plK hl
  have K3 : (kd (43 + 18 * l)).1 = 3 := by rw [k0]
  unfold f_X3_arm
  rw [ck_t K3, bd_e, ck_t (show isb 1 by decide), ck_t K3, bd_e, ck_t K3, bd_e, ck_t K3, bd_e]
  rfl
theorem call_c {st : St} (hT : Top st) {l N q c a x : Nat} {D : LD} (hl : l < 4) (hq : SQ q) (rQ : gR st (43 + 18 * l) 0 = q) (hS : SC q c a D st) (hL : LOK c a D) (hN : N ≤ 100000) (hx : x ≤ 99999) {fu : Nat} (hf : 100 ≤ fu) : f_X1_callCue fu (43 + 18 * l) (nI x) (nI N) st = some (match fnd D x c 0 with | some m => armC l m (N + (if D 3 m ≤ 1 then 1 else D 3 m)) st | none => st) := by
  obtain ⟨k0, -⟩ := plK hl
  have qb := hq.b
  have qK := sqK hq
  have qR := sqR hq hT
  have c60 := hL.1
  have fc := find_c hT hq hS hL hf (x := x) (by omega)
  rcases hF : fnd D x c 0 with _ | m
  · rw [hF] at fc
    have fc' : f_X8_find fu q (nI x) st = some (-nI 1, st) := fc
    clear hS hL
    simp (disch := first | decide | omega) [↓bd_e, isb, ck_tt, NP, NF, NC, NB, NS, GS, kdC, tpC hT, f_X1_callCue, b_X1_callCue_33, k0, rQ, qK, ↓caO fc']
  · rw [hF] at fc
    have fc' : f_X8_find fu q (nI x) st = some (nI m, st) := fc
    have hm := fnd_s hF
    have u3 : gI st (q + 4) m = nI (D 3 m) := hS.2.1 m (by omega) 3 (by omega)
    have b3 : D 3 m ≤ 9999 := (hL.2.2.2.2.1 m (by omega)).1.2.2.2.2.1
    have mx := max2 (st := st) fu (a := 1) (v := D 3 m) (by omega) (by omega)
    have ar := arm_c hl fu m (N + (if D 3 m ≤ 1 then 1 else D 3 m)) st
    clear hS hL
    simp (disch := first | decide | omega) [↓bd_e, isb, ck_tt, NP, NF, NC, NB, NS, GS, kdC, tpC hT, f_X1_callCue, b_X1_callCue_33, k0, rQ, qK, qR, u3, ↓caO fc', mx, ar]
theorem plays_w {st : St} (hT : Top st) {l N m wt p : Nat} (hl : l < 4) (hm : m < 60) (hN : N ≤ 100000) (hw : wt ≤ 9999) (hp : p ≤ 1) (n40 : gI st 153 40 = nI N) (t3 : gI st 162 (l * 60 + m) = nI wt) (h0 : ¬ (p = 0 ∧ wt = 0)) (fu d : Nat) : (F_X12_plays fu (d + 1)).1 153 (nI l) (nI m) (nI p) st = some (armR l m (N + (if wt ≤ p then p else wt)) st) := by
  show fb_X12_plays fu (F_X12_plays fu d).1 (F_X12_plays fu d).2 153 (nI l) (nI m) (nI p) st = _
  generalize (F_X12_plays fu d).1 = rp
  generalize (F_X12_plays fu d).2 = rb
  unfold armR
  by_cases c : p ≤ wt
  · have w0 : 0 < wt := by omega
    have e : (if wt ≤ p then p else wt) = wt := by
      by_cases z : wt ≤ p
      · rw [if_pos z]; omega
      · rw [if_neg z]
    rw [e]
    simp (disch := first | decide | omega) [↓bd_e, isb, ck_tt, NP, NF, NC, NB, NS, GS, kdR, tpR hT, fb_X12_plays, b_X12_plays_46, b_X12_plays_74, n40, t3, gI_sI]
  · have p1 : p = 1 := by omega
    have w0 : wt = 0 := by omega
    subst p1 w0
    simp (disch := first | decide | omega) [↓bd_e, isb, ck_tt, NP, NF, NC, NB, NS, GS, kdR, tpR hT, fb_X12_plays, b_X12_plays_46, b_X12_plays_74, n40, t3, gI_sI]
