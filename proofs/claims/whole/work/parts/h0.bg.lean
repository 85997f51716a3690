/-! PURE: lists: where a cue begins -/
def armB (l m : Nat) (st : St) : St := sI (sI (sI st 186 l (nI m)) 188 l (-nI 1)) 187 l (-nI 1)
theorem plays_0 {st : St} (hT : Top st) {l m : Nat} (hl : l < 4) (hm : m < 60) (t3 : gI st 162 (l * 60 + m) = nI 0) (fu d : Nat) : (F_X12_plays fu (d + 1)).1 153 (nI l) (nI m) (nI 0) st = (F_X12_plays fu d).2 153 (nI l) (armB l m st) := by
  show fb_X12_plays fu (F_X12_plays fu d).1 (F_X12_plays fu d).2 153 (nI l) (nI m) (nI 0) st = _
  generalize (F_X12_plays fu d).1 = rp
  generalize (F_X12_plays fu d).2 = rb
  have e : ∀ o : Option St, (cv o fun s11 => some s11) = o := fun o => by cases o <;> rfl
  unfold armB
  simp (disch := first | decide | omega) [↓bd_e, isb, ck_tt, NP, NF, NC, NB, NS, GS, kdR, tpR hT, fb_X12_plays, b_X12_plays_46, b_X12_plays_74, t3, gI_sI, e]
theorem begins_r {st : St} (hT : Top st) {l i : Nat} (hl : l < 4) (hi : i < 60) (h6 : gI st 186 l = nI i) (fu d : Nat) : (F_X12_plays fu (d + 1)).2 153 (nI l) st = b_X12_begins_21 fu (F_X12_plays fu d).1 (F_X12_plays fu d).2 fu 153 (nI l) (nI (l * 60 + i)) (nI 1) (sI st 187 l (-nI 1)) := by
  show fb_X12_begins fu (F_X12_plays fu d).1 (F_X12_plays fu d).2 153 (nI l) st = _
  generalize (F_X12_plays fu d).1 = rp
  generalize (F_X12_plays fu d).2 = rb
  simp (disch := first | decide | omega) [↓bd_e, isb, ck_tt, NP, NF, NC, NB, NS, GS, kdR, tpR hT, fb_X12_begins, h6]
/-- the class: a cue begins: the wait ends, the follow is set, then what it tracks -/
def begC (l N f : Nat) (st : St) : St := sI (sI st (43 + 18 * l) 6 (nI 0)) (43 + 18 * l) 8 (if f = 0 then -nI 1 else nI (N + f))
theorem begin_c {st : St} (hT : Top st) {l N q c a i : Nat} {D : LD} (hl : l < 4) (hN : N ≤ 100000) (hq : SQ q) (rQ : gR st (43 + 18 * l) 0 = q) (hS : SC q c a D st) (hL : LOK c a D) (h5 : gI st (43 + 18 * l) 5 = nI i) (hi : i < c) {fu : Nat} {u : St} (hU : f_X8_trackAll fu q (nI i) 27 (begC l N (D 4 i) st) = some u) : f_X1_begin fu 24 (nI l) (nI N) st = b_X1_begin_83 fu fu 24 (nI l) (nI N) (43 + 18 * l) q (nI i) (nI 0) u := by
  obtain ⟨r0, -⟩ := plR hl hT
  obtain ⟨k0, -⟩ := plK hl
  have qb := hq.b
  have qK := sqK hq
  have qR := sqR hq hT
  have c60 := hL.1
  have s1 := hS.1
  have u4 : gI st (q + 5) i = nI (D 4 i) := hS.2.1 i hi 4 (by omega)
  have b4 : D 4 i ≤ 9999 := (hL.2.2.2.2.1 i hi).1.2.2.2.2.2.1
  have nq : ¬ q + 5 = 43 + 18 * l := (hq.ne hl (j := 5) (m := 0) (by omega) (by omega)).2
  have u4' : gI (sI st (43 + 18 * l) 6 (nI 0)) (q + 5) i = nI (D 4 i) := by rw [gI_sI, if_neg (fun z => nq z.1)]; exact u4
  clear hS hL u4
  have K3 : (kd (43 + 18 * l)).1 = 3 := by rw [k0]
  have K8 : (kd q).1 = 8 := by rw [qK.1]
  have ib : inb (nI i) 60 := by simp (disch := first | decide | omega) [NF, NC, NB, inb]
  have il : inb (nI l) 4 := by simp (disch := first | decide | omega) [NF, NC, NB, inb]
  have ii : ix (nI i) = i := ix_nI (by omega)
  have iL : ix (nI l) = l := ix_nI (by omega)
  have KQ : (kd (q + 5)).1 = 100 ∧ inb (nI i) (kd (q + 5)).2 := by rw [qK.2.2.2.2.2.1]; exact ⟨rfl, ib⟩
  unfold f_X1_begin
  rw [tp_24_0 hT, ck_t (show ¬ 25 = 0 by decide), ck_t (show (kd 24).1 = 1 from rfl), bd_e, iL, r0, ck_t (show ¬ 43 + 18 * l = 0 by omega), ck_t (show (kd 25).1 = 104 ∧ inb (nI l) (kd 25).2 from ⟨rfl, il⟩), bd_e, rQ, ck_t (show ¬ q = 0 by omega), ck_t K3, bd_e, ck_t K3, h5, bd_e, if_neg (show ¬ nI i < 0 from fun z => by have := (nI_ltI (a := i) (b := 0) (by omega) (by omega)).mp z; omega), ck_t K8, s1, if_pos ((nI_ltI (by omega) (by omega)).mpr hi), ck_t (show isb 0 by decide), ck_t K3, bd_e, show gR (sI st (43 + 18 * l) 6 0) = gR st from rfl, qR.2.2.2.2.1, ck_t (show ¬ q + 5 = 0 by omega), ck_t K8, bd_e, ck_t KQ, ii, show (sI st (43 + 18 * l) 6 0) = sI st (43 + 18 * l) 6 (nI 0) from rfl, u4']
  have fin : ∀ y : Int32, y = (if D 4 i = 0 then -nI 1 else nI (N + D 4 i)) → b_X1_begin_66 fu 24 (nI l) (nI N) (43 + 18 * l) q (nI i) (43 + 18 * l) y (sI st (43 + 18 * l) 6 (nI 0)) = b_X1_begin_83 fu fu 24 (nI l) (nI N) (43 + 18 * l) q (nI i) (nI 0) u := fun y hy => by
    unfold b_X1_begin_66
    rw [ck_t K3, bd_e, show gR (sI (sI st (43 + 18 * l) 6 (nI 0)) (43 + 18 * l) 8 y) = gR st from rfl, tp_24_2 hT, ck_t (show ¬ 27 = 0 by decide), ck_t (show (kd 24).1 = 1 from rfl), bd_e, ck_t K8, hy]
    show cv (f_X8_trackAll fu q (nI i) 27 (begC l N (D 4 i) st)) _ = _
    rw [hU]
    rfl
  by_cases d : D 4 i = 0
  · rw [if_pos (by rw [d]; exact Int32.le_refl _)]
    exact fin _ (by rw [if_pos d]; rfl)
  · rw [if_neg (fun z => by have := (nI_leI (a := D 4 i) (b := 0) (by omega) (by omega)).mp z; omega), ck_t (show ¬ q + 5 = 0 by omega), ck_t K8, bd_e, ck_t KQ, u4']
    exact fin _ (by rw [if_neg d]; exact nI_add N (D 4 i))
