/-! PURE: the text of a lock: class, the loop of or, not; the whole -/
theorem or_p {b : BY} {n q : Nat} (hq : QK q) {fu : Nat} (hf : 4100 ≤ fu) {rO rN : RKc} {x : Int32} {f : Nat → PR LK} (hN : NotP b n q rN x f) (hND : NotD b n q rN x) (hG : ∀ t y t', f t = .inl (y, t') → GD t y t') (c0 : List Nat) : ∀ (F g g' i t : Nat) (o : Option LK) (a : LK) (st : St), 61 ≤ g + t → 61 ≤ g' + t → i < t → t ≤ 60 → 62 ≤ F + i → Top st → TC b n 60 t st → CG q (c0 ++ (oc o ++ a.1)) st → (c0 ++ (oc o ++ a.1)).length + ob1 o ≤ t → ∃ u, b_X7_readOr_11 fu rO rN F 4 2 x (nI (ob1 o)) (nI i) st = some u ∧ Fr (WK q) st u ∧ Top u ∧ DQ q u ∧ COl b n (pb (pAs b n f g a t) fun y t1 => pOs b n f g' (jn o y) t1) (fun y => CG q (c0 ++ y.1) u) u := by
  intro F
  induction F with
  | zero => intro g g' i t o a st h1 h2 h3 h4 h5; omega
  | succ F ih =>
    intro g g' i t o a st hg hg' hi t60 hF hT h hC hl
    obtain ⟨F', rfl⟩ : ∃ F', F = F' + 1 := ⟨F - 1, by omega⟩
    obtain ⟨g, rfl⟩ : ∃ k, g = k + 1 := ⟨g - 1, by omega⟩
    obtain ⟨g', rfl⟩ : ∃ k, g' = k + 1 := ⟨g' - 1, by omega⟩
    have un : b_X7_readOr_11 fu rO rN (F' + 1 + 1) 4 2 x (nI (ob1 o)) (nI i) st = b_X7_readOr_11_b fu rO rN (b_X7_readOr_11 fu rO rN (F' + 1)) 4 2 x (nI (ob1 o)) (nI i) st := rfl
    rw [un]
    have i1 : nI i + 1 = nI (i + 1) := nI_add i 1
    have n60 : ¬ (60 : Int32) ≤ nI i := fun z => by have := (nI_leI (a := 60) (b := i) (by omega) (by omega)).mp z; omega
    have uA : pAs b n f (g + 1) a t = if so b n t = 38 then tk b n t fun t1 => pb (f t1) fun x t2 => pAs b n f g (lAn a x) t2 else .inl (a, t) := rfl
    rw [uA]
    obtain ⟨T1, T2⟩ := takes_c hT h hf (c := 38) (by omega) (by omega)
    unfold b_X7_readOr_11_b
    rw [if_neg n60, ck_t (show (kd 2).1 = 9 from rfl)]
    by_cases s38 : so b n t = 38
    · rw [if_pos s38]
      obtain ⟨s3, e3, nx⟩ := T1 s38
      obtain ⟨fr3, hT3, co3⟩ := nx.t
      have hC3 := hC.w hq fr3
      rw [show f_X9_takes fu 2 38 st = some (nI 1, s3) from e3, ca_s, if_neg (show ¬ nI 1 = 0 by decide), ck_t (show (kd 4).1 = 7 from rfl)]
      have dead : ∀ e1 e2 s9, Top s9 → DQ q s9 → TD b n 60 e1 e2 s9 → rN 4 2 x s3 = some s9 → Fr (WK q) s3 s9 → ∃ u, (cv (rN 4 2 x s3) fun s9 => ck ((kd 4).1 = 7) <| cv (f_X7_emit fu 4 1 0 0 s9) fun s10 => b_X7_readOr_74 fu rO rN (b_X7_readOr_11 fu rO rN (F' + 1)) 4 2 x (nI (ob1 o)) (nI i) s10) = some u ∧ Fr (WK q) st u ∧ Top u ∧ DQ q u ∧ TD b n 60 e1 e2 u := fun e1 e2 s9 hT9 hQ9 hD9 er fr9 => by
        obtain ⟨s10, ee, fre, hTe, hQe, hDe⟩ := emit_d hT9 hq hQ9 hD9 1 0 0 fu
        obtain ⟨u, u1, u2, u3, u4, u5⟩ := or_d hq fu rO rN x (nI (ob1 o)) F' (i := i + 1) (by omega) hTe hDe hQe
        refine ⟨u, ?_, WK_t (WK_w fr3) (WK_t fr9 (WK_t fre u2)), u3, u4, u5⟩
        rw [er, cv_s, ck_t (show (kd 4).1 = 7 from rfl), ee, cv_s]
        unfold b_X7_readOr_74
        rw [i1, bd_e]
        exact u1
      by_cases c60 : t < 60
      · rw [tk_t c60] at co3 ⊢
        obtain ⟨s9, e9, fr9, hT9, hQ9, co9⟩ := hN (t + 1) _ s3 hT3 co3.1 hC3 (by omega)
        cases hp : f (t + 1) with
        | inr e =>
          rw [hp] at co9
          exact dead _ _ s9 hT9 hQ9 co9 e9 fr9
        | inl y =>
          obtain ⟨y, t2⟩ := y
          rw [hp] at co9
          obtain ⟨h9, hC9⟩ := co9
          have h9 : TC b n 60 t2 s9 := h9
          have hC9 : CG q (c0 ++ (oc o ++ a.1) ++ y.1) s9 := hC9
          obtain ⟨y1, y2, y3, y4⟩ := hG _ _ _ hp
          have ll : (c0 ++ (oc o ++ a.1) ++ y.1).length = (c0 ++ (oc o ++ a.1)).length + y.1.length := by rw [List.length_append]
          obtain ⟨s10, ee, fre, hTe, hCe, g2, g3⟩ := emit_c (v := 0) hT9 hq hC9 (by omega) (show 1 < 8 by omega) (show 0 < 16 by omega) fu
          have ca' : c0 ++ (oc o ++ a.1) ++ y.1 ++ [1 + 8 * 0 + 128 * 0] = c0 ++ (oc o ++ (lAn a y).1) := by
            show c0 ++ (oc o ++ a.1) ++ y.1 ++ [1] = c0 ++ (oc o ++ (a.1 ++ (y.1 ++ [1])))
            simp only [List.append_assoc]
          rw [ca'] at hCe
          have l2 : (c0 ++ (oc o ++ (lAn a y).1)).length = (c0 ++ (oc o ++ a.1)).length + y.1.length + 1 := by
            rw [← ca', List.length_append, ll]; rfl
          obtain ⟨u, u1, u2, u3, u4, u5⟩ := ih g (g' + 1) (i + 1) t2 o (lAn a y) s10 (by omega) (by omega) (by omega) y2 (by omega) hTe (h9.f2 g2 g3) hCe (by omega)
          refine ⟨u, ?_, WK_t (WK_w fr3) (WK_t fr9 (WK_t fre u2)), u3, u4, u5⟩
          rw [e9, cv_s, ck_t (show (kd 4).1 = 7 from rfl), show f_X7_emit fu 4 1 0 0 s9 = some s10 from ee, cv_s]
          unfold b_X7_readOr_74
          rw [i1, bd_e]
          exact u1
      · rw [tk_f c60] at co3 ⊢
        obtain ⟨s9, e9, fr9, hT9, hQ9, hD9⟩ := hND _ _ s3 hT3 co3 (hC3.dq (by omega))
        exact dead _ _ s9 hT9 hQ9 hD9 e9 fr9
    · rw [if_neg s38, show f_X9_takes fu 2 38 st = some (nI 0, st) from T2 s38, ca_s, if_pos (show nI 0 = 0 from rfl), pb_i]
      have K54 : ∀ (s : St) (z : LK), Top s → TC b n 60 t s → CG q (c0 ++ z.1) s → (c0 ++ z.1).length ≤ t → ∃ u, b_X7_readOr_54 fu rO rN (b_X7_readOr_11 fu rO rN (F' + 1)) 4 2 x (nI i) s = some u ∧ Fr (WK q) s u ∧ Top u ∧ DQ q u ∧ COl b n (pOs b n f (g' + 1) z t) (fun y => CG q (c0 ++ y.1) u) u := fun s z hTs hs hCs hls => by
        obtain ⟨T1, T2⟩ := takes_c hTs hs hf (c := 124) (by omega) (by omega)
        have uO : pOs b n f (g' + 1) z t = if so b n t = 124 then tk b n t fun t1 => pb (f t1) fun x t2 => pb (pAs b n f 62 x t2) fun y t3 => pOs b n f g' (lOr z y) t3 else .inl (z, t) := rfl
        rw [uO]
        unfold b_X7_readOr_54 b_X7_readOr_80
        rw [ck_t (show (kd 2).1 = 9 from rfl)]
        by_cases s124 : so b n t = 124
        · rw [if_pos s124]
          obtain ⟨s3, e3, nx⟩ := T1 s124
          obtain ⟨fr3, hT3, co3⟩ := nx.t
          have hC3 := hCs.w hq fr3
          rw [show f_X9_takes fu 2 124 s = some (nI 1, s3) from e3, ca_s, if_neg (show ¬ nI 1 = 0 by decide), ck_t (show (kd 4).1 = 7 from rfl)]
          unfold b_X7_readOr_74
          have dead : ∀ e1 e2 s9, Top s9 → DQ q s9 → TD b n 60 e1 e2 s9 → rN 4 2 x s3 = some s9 → Fr (WK q) s3 s9 → ∃ u, (cv (rN 4 2 x s3) fun s6 => bd (nI i + 1) fun v7 => b_X7_readOr_11 fu rO rN (F' + 1) 4 2 x (nI 1) v7 s6) = some u ∧ Fr (WK q) s u ∧ Top u ∧ DQ q u ∧ TD b n 60 e1 e2 u := fun e1 e2 s9 hT9 hQ9 hD9 er fr9 => by
            obtain ⟨u, u1, u2, u3, u4, u5⟩ := or_d hq fu rO rN x (nI 1) F' (i := i + 1) (by omega) hT9 hD9 hQ9
            exact ⟨u, by rw [er, cv_s, i1, bd_e]; exact u1, WK_t (WK_w fr3) (WK_t fr9 u2), u3, u4, u5⟩
          by_cases c60 : t < 60
          · rw [tk_t c60] at co3 ⊢
            obtain ⟨s9, e9, fr9, hT9, hQ9, co9⟩ := hN (t + 1) _ s3 hT3 co3.1 hC3 (by omega)
            cases hp : f (t + 1) with
            | inr e =>
              rw [hp] at co9
              exact dead _ _ s9 hT9 hQ9 co9 e9 fr9
            | inl y =>
              obtain ⟨y, t2⟩ := y
              rw [hp] at co9
              obtain ⟨h9, hC9⟩ := co9
              have h9 : TC b n 60 t2 s9 := h9
              have hC9 : CG q (c0 ++ z.1 ++ y.1) s9 := hC9
              obtain ⟨y1, y2, y3, y4⟩ := hG _ _ _ hp
              have ll : (c0 ++ (oc (some z) ++ y.1)).length = (c0 ++ z.1).length + y.1.length := by
                show (c0 ++ (z.1 ++ y.1)).length = _
                rw [← List.append_assoc, List.length_append]
              obtain ⟨u, u1, u2, u3, u4, u5⟩ := ih 62 g' (i + 1) t2 (some z) y s9 (by omega) (by omega) (by omega) y2 (by omega) hT9 h9 (by rw [List.append_assoc] at hC9; exact hC9) (by rw [ll]; show _ + 1 ≤ t2; omega)
              exact ⟨u, by rw [e9, cv_s, i1, bd_e]; exact u1, WK_t (WK_w fr3) (WK_t fr9 u2), u3, u4, u5⟩
          · rw [tk_f c60] at co3 ⊢
            obtain ⟨s9, e9, fr9, hT9, hQ9, hD9⟩ := hND _ _ s3 hT3 co3 (hC3.dq (by omega))
            exact dead _ _ s9 hT9 hQ9 hD9 e9 fr9
        · rw [if_neg s124, show f_X9_takes fu 2 124 s = some (nI 0, s) from T2 s124, ca_s, if_pos (show nI 0 = 0 from rfl)]
          exact ⟨s, rfl, Fr.rf, hTs, hCs.dq (by omega), hs, hCs⟩
      cases o with
      | none =>
        rw [if_pos (show nI (ob1 none) = 0 from rfl)]
        exact K54 st a hT h hC (by have : (c0 ++ (oc none ++ a.1)).length + 0 ≤ t := hl; exact this)
      | some l =>
        have hl' : (c0 ++ (l.1 ++ a.1)).length + 1 ≤ t := hl
        rw [if_neg (show ¬ nI (ob1 (some l)) = 0 by show ¬ nI 1 = 0; decide), ck_t (show (kd 4).1 = 7 from rfl)]
        obtain ⟨s8, ee, fre, hTe, hCe, g2, g3⟩ := emit_c (v := 0) hT hq (show CG q (c0 ++ (l.1 ++ a.1)) st from hC) (by omega) (show 2 < 8 by omega) (show 0 < 16 by omega) fu
        have ca' : c0 ++ (l.1 ++ a.1) ++ [2 + 8 * 0 + 128 * 0] = c0 ++ (lOr l a).1 := by
          show c0 ++ (l.1 ++ a.1) ++ [2] = c0 ++ (l.1 ++ (a.1 ++ [2]))
          simp only [List.append_assoc]
        rw [ca'] at hCe
        rw [show f_X7_emit fu 4 2 0 0 st = some s8 from ee, cv_s]
        obtain ⟨u, u1, u2, u3, u4, u5⟩ := K54 s8 (lOr l a) hTe (h.f2 g2 g3) hCe (by rw [← ca', List.length_append]; exact hl')
        exact ⟨u, u1, WK_t fre u2, u3, u4, u5⟩
theorem ro_p {b : BY} {n q : Nat} (hq : QK q) {fu : Nat} (hf : 4100 ≤ fu) {rO rN : RKc} {x : Int32} {f : Nat → PR LK} (hN : NotP b n q rN x f) (hND : NotD b n q rN x) (hG : ∀ t y t', f t = .inl (y, t') → GD t y t') : NotP b n q (fb_X7_readOr fu rO rN) x (pOrF b n f) := by
  intro t c st hT h hC hl
  have t60 : t ≤ 60 := h.2.1.2.2.2
  obtain ⟨G, rfl⟩ : ∃ G, fu = G + 1 := ⟨fu - 1, by omega⟩
  obtain ⟨s1, e1, fr1, hT1, hQ1, co1⟩ := hN t c st hT h hC hl
  unfold fb_X7_readOr pOrF pAnF
  rw [ck_t (show (kd 4).1 = 7 from rfl), e1, cv_s]
  cases hp : f t with
  | inr e =>
    rw [hp] at co1
    obtain ⟨u, u1, u2, u3, u4, u5⟩ := or_d hq (G + 1) rO rN x 0 G (i := 0) (by omega) hT1 co1 hQ1
    exact ⟨u, u1, WK_t fr1 u2, u3, u4, u5⟩
  | inl y =>
    obtain ⟨y, t1⟩ := y
    rw [hp] at co1
    obtain ⟨y1, y2, y3, y4⟩ := hG _ _ _ hp
    obtain ⟨u, u1, u2, u3, u4, u5⟩ := or_p hq hf (rO := rO) hN hND hG c (G + 1) 62 62 0 t1 none y s1 (by omega) (by omega) (by omega) y2 (by omega) hT1 (show TC b n 60 t1 s1 from co1.1) (show CG q (c ++ y.1) s1 from co1.2) (by show (c ++ y.1).length + 0 ≤ t1; rw [List.length_append]; omega)
    exact ⟨u, u1, WK_t fr1 u2, u3, u4, u5⟩
theorem ro_d {b : BY} {n q : Nat} (hq : QK q) {fu : Nat} (hf : 4100 ≤ fu) {rO rN : RKc} {x : Int32} (hND : NotD b n q rN x) : NotD b n q (fb_X7_readOr fu rO rN) x := by
  intro f p st hT hD hQ
  obtain ⟨G, rfl⟩ : ∃ G, fu = G + 1 := ⟨fu - 1, by omega⟩
  obtain ⟨s1, e1, fr1, hT1, hQ1, hD1⟩ := hND f p st hT hD hQ
  obtain ⟨u, u1, u2, u3, u4, u5⟩ := or_d hq (G + 1) rO rN x 0 G (i := 0) (by omega) hT1 hD1 hQ1
  unfold fb_X7_readOr
  rw [ck_t (show (kd 4).1 = 7 from rfl), e1, cv_s]
  exact ⟨u, u1, WK_t fr1 u2, u3, u4, u5⟩
theorem rn_d {b : BY} {n q fu : Nat} (rO rN : RKc) (x : Int32) : NotD b n q (fb_X7_readNot fu rO rN) x := by
  intro f p st hT hD hQ
  obtain ⟨u, u1, u2, u3, u4, u5⟩ := term_d2 hT hQ hD fu
  refine ⟨u, ?_, u2, u3, u4, u5⟩
  unfold fb_X7_readNot
  rw [ck_t (show (kd 2).1 = 9 from rfl), isSign_d hT hD fu 33, ca_s, if_pos (show nI 0 = 0 from rfl), ck_t (show (kd 2).1 = 9 from rfl), isSign_d hT hD fu 40, ca_s, if_pos (show nI 0 = 0 from rfl), ck_t (show (kd 4).1 = 7 from rfl), u1, cv_s]
theorem fuS {fu D : Nat} : (F_X7_readOr fu (D + 1)).2 = fb_X7_readNot fu (F_X7_readOr fu D).1 (F_X7_readOr fu D).2 := rfl
theorem foS {fu D : Nat} : (F_X7_readOr fu (D + 1)).1 = fb_X7_readOr fu (F_X7_readOr fu D).1 (F_X7_readOr fu D).2 := rfl
theorem rn_p {b : BY} {n q : Nat} (hq : QK q) {fu : Nat} (hf : 4100 ≤ fu) : ∀ (d D : Nat), d ≤ 12 → 2 * d + 1 ≤ D → NotP b n q (F_X7_readOr fu D).2 (nI (12 - d)) (pNt b n d) := by
  intro d
  induction d with
  | zero =>
    intro D _ hD t c st hT h hC hl
    obtain ⟨D, rfl⟩ : ∃ k, D = k + 1 := ⟨D - 1, by omega⟩
    have t60 : t ≤ 60 := h.2.1.2.2.2
    have s1 := isSign_c hT h fu (c := 33) (by omega) (by omega)
    have s2 := isSign_c hT h fu (c := 40) (by omega) (by omega)
    rw [fuS]
    unfold fb_X7_readNot pNt
    have big : ∃ u, b_X7_readNot_24 fu (F_X7_readOr fu D).1 (F_X7_readOr fu D).2 4 2 (nI (12 - 0)) st = some u ∧ Fr (WK q) st u ∧ Top u ∧ DQ q u ∧ TD b n 60 2 (pl b n t) u := by
      obtain ⟨u, u1, u2, u3, u4⟩ := fail_c hT h.1 h.2.1.1 fu (f := 2) (p := pl b n t) (by omega) (by omega) (pl_b b n t).2
      refine ⟨u, ?_, WK_w u2, u3, (hC.dq (by omega)).w u2, u4⟩
      unfold b_X7_readNot_24
      rw [if_neg (show ¬ nI (12 - 0) < 12 by decide), ck_t (show (kd 2).1 = 9 from rfl), ck_t (show (kd 2).1 = 9 from rfl), h.2.2.1, show f_X9_fail fu 2 2 (nI (pl b n t)) st = some u from u1, cv_s]
    rw [ck_t (show (kd 2).1 = 9 from rfl), show f_X9_isSign fu 2 33 st = _ from s1, ca_s]
    by_cases c33 : so b n t = 33
    · rw [if_pos c33, if_neg (show ¬ nI 1 = 0 by decide), if_pos (Or.inl c33)]
      exact big
    · rw [if_neg c33, if_pos (show nI 0 = 0 from rfl), ck_t (show (kd 2).1 = 9 from rfl), show f_X9_isSign fu 2 40 st = _ from s2, ca_s]
      by_cases c40 : so b n t = 40
      · rw [if_pos c40, if_neg (show ¬ nI 1 = 0 by decide), if_pos (Or.inr c40)]
        exact big
      · rw [if_neg c40, if_pos (show nI 0 = 0 from rfl), if_neg (by omega), ck_t (show (kd 4).1 = 7 from rfl)]
        obtain ⟨u, u1, u2⟩ := term_p2 hT hq hC h hl hf
        exact ⟨u, by rw [u1, cv_s], u2⟩
  | succ d ih =>
    intro D hd hD t c st hT h hC hl
    obtain ⟨D, rfl⟩ : ∃ k, D = k + 1 + 1 := ⟨D - 2, by omega⟩
    have t60 : t ≤ 60 := h.2.1.2.2.2
    have s1 := isSign_c hT h fu (c := 33) (by omega) (by omega)
    have s2 := isSign_c hT h fu (c := 40) (by omega) (by omega)
    have N1 := ih (D + 1) (by omega) (by omega)
    have N0 := ih D (by omega) (by omega)
    have D1 : NotD b n q (F_X7_readOr fu (D + 1)).2 (nI (12 - d)) := rn_d _ _ _
    obtain ⟨D, rfl⟩ : ∃ k, D = k + 1 := ⟨D - 1, by omega⟩
    have D0 : NotD b n q (F_X7_readOr fu (D + 1)).2 (nI (12 - d)) := rn_d _ _ _
    have O1 : NotP b n q (F_X7_readOr fu (D + 1 + 1)).1 (nI (12 - d)) (pOrF b n (pNt b n d)) := by
      rw [foS]; exact ro_p hq hf N0 D0 (pNt_i d)
    have OD : NotD b n q (F_X7_readOr fu (D + 1 + 1)).1 (nI (12 - d)) := by
      rw [foS]; exact ro_d hq hf D0
    have x1 : nI (12 - (d + 1)) + 1 = nI (12 - d) := by
      rw [show (1 : Int32) = nI 1 from rfl, nI_add]
      congr 1
      omega
    have lt : nI (12 - (d + 1)) < 12 := (nI_ltI (a := 12 - (d + 1)) (b := 12) (by omega) (by omega)).mpr (by omega)
    have uN : pNt b n (d + 1) t = if so b n t = 33 then tk b n t fun t1 => pb (pNt b n d t1) fun x t2 => .inl (lNg x, t2) else if so b n t = 40 then tk b n t fun t1 => pb (pOrF b n (pNt b n d) t1) fun x t2 => pb (pS b n 41 t2) fun _ t3 => .inl (x, t3) else pTm b n t := rfl
    rw [fuS, uN]
    unfold fb_X7_readNot
    rw [ck_t (show (kd 2).1 = 9 from rfl), show f_X9_isSign fu 2 33 st = _ from s1, ca_s]
    by_cases c33 : so b n t = 33
    · rw [if_pos c33, if_pos c33, if_neg (show ¬ nI 1 = 0 by decide)]
      obtain ⟨T1, -⟩ := takes_c hT h hf (c := 33) (by omega) (by omega)
      obtain ⟨s3, e3, nx⟩ := T1 c33
      obtain ⟨fr3, hT3, co3⟩ := nx.t
      have hC3 := hC.w hq fr3
      unfold b_X7_readNot_24 b_X7_readNot_85
      rw [if_pos lt, ck_t (show (kd 2).1 = 9 from rfl), show f_X9_takes fu 2 33 st = some (nI 1, s3) from e3, ca_s, if_neg (show ¬ nI 1 = 0 by decide), ck_t (show (kd 4).1 = 7 from rfl), x1]
      have dead : ∀ e1 e2 s8, Top s8 → DQ q s8 → TD b n 60 e1 e2 s8 → (F_X7_readOr fu (D + 1 + 1)).2 4 2 (nI (12 - d)) s3 = some s8 → Fr (WK q) s3 s8 → ∃ u, (cv ((F_X7_readOr fu (D + 1 + 1)).2 4 2 (nI (12 - d)) s3) fun s8 => ck ((kd 4).1 = 7) <| cv (f_X7_emit fu 4 0 0 0 s8) fun s9 => some s9) = some u ∧ Fr (WK q) st u ∧ Top u ∧ DQ q u ∧ TD b n 60 e1 e2 u := fun e1 e2 s8 hT8 hQ8 hD8 er fr8 => by
        obtain ⟨u, ee, fre, hTe, hQe, hDe⟩ := emit_d hT8 hq hQ8 hD8 0 0 0 fu
        exact ⟨u, by rw [er, cv_s, ck_t (show (kd 4).1 = 7 from rfl), ee, cv_s], WK_t (WK_w fr3) (WK_t fr8 fre), hTe, hQe, hDe⟩
      by_cases c60 : t < 60
      · rw [tk_t c60] at co3 ⊢
        obtain ⟨s8, e8, fr8, hT8, hQ8, co8⟩ := N1 (t + 1) _ s3 hT3 co3.1 hC3 (by omega)
        cases hp : pNt b n d (t + 1) with
        | inr e =>
          rw [hp] at co8
          exact dead _ _ s8 hT8 hQ8 co8 e8 fr8
        | inl y =>
          obtain ⟨y, t2⟩ := y
          rw [hp] at co8
          obtain ⟨h8, hC8⟩ := co8
          have hC8 : CG q (c ++ y.1) s8 := hC8
          obtain ⟨y1, y2, y3, y4⟩ := pNt_i _ _ _ _ hp
          obtain ⟨u, ee, fre, hTe, hCe, g2, g3⟩ := emit_c (v := 0) hT8 hq hC8 (by rw [List.length_append]; omega) (show 0 < 8 by omega) (show 0 < 16 by omega) fu
          have hCe : CG q (c ++ y.1 ++ [0]) u := hCe
          refine ⟨u, by rw [e8, cv_s, ck_t (show (kd 4).1 = 7 from rfl), show f_X7_emit fu 4 0 0 0 s8 = some u from ee, cv_s], WK_t (WK_w fr3) (WK_t fr8 fre), hTe, hCe.dq (by simp; omega), (show TC b n 60 t2 s8 from h8).f2 g2 g3, ?_⟩
          show CG q (c ++ (y.1 ++ [0])) u
          rw [← List.append_assoc]; exact hCe
      · rw [tk_f c60] at co3 ⊢
        obtain ⟨s8, e8, fr8, hT8, hQ8, hD8⟩ := D1 _ _ s3 hT3 co3 (hC3.dq (by omega))
        exact dead _ _ s8 hT8 hQ8 hD8 e8 fr8
    · rw [if_neg c33, if_neg c33, if_pos (show nI 0 = 0 from rfl), ck_t (show (kd 2).1 = 9 from rfl), show f_X9_isSign fu 2 40 st = _ from s2, ca_s]
      by_cases c40 : so b n t = 40
      · rw [if_pos c40, if_pos c40, if_neg (show ¬ nI 1 = 0 by decide)]
        obtain ⟨-, T2⟩ := takes_c hT h hf (c := 33) (by omega) (by omega)
        obtain ⟨s3, e3, nx⟩ := next_c hT h hf
        obtain ⟨fr3, hT3, co3⟩ := nx.t
        have hC3 := hC.w hq fr3
        unfold b_X7_readNot_24 b_X7_readNot_85
        rw [if_pos lt, ck_t (show (kd 2).1 = 9 from rfl), show f_X9_takes fu 2 33 st = some (nI 0, st) from T2 c33, ca_s, if_pos (show nI 0 = 0 from rfl), ck_t (show (kd 2).1 = 9 from rfl), e3, cv_s, ck_t (show (kd 4).1 = 7 from rfl), x1]
        have dead : ∀ e1 e2 s8, Top s8 → DQ q s8 → TD b n 60 e1 e2 s8 → (F_X7_readOr fu (D + 1 + 1)).1 4 2 (nI (12 - d)) s3 = some s8 → Fr (WK q) s3 s8 → ∃ u, (cv ((F_X7_readOr fu (D + 1 + 1)).1 4 2 (nI (12 - d)) s3) fun s6 => ck ((kd 2).1 = 9) <| cv (f_X9_need fu 2 41 s6) fun s7 => some s7) = some u ∧ Fr (WK q) st u ∧ Top u ∧ DQ q u ∧ TD b n 60 e1 e2 u := fun e1 e2 s8 hT8 hQ8 hD8 er fr8 => by
          obtain ⟨u, ee, fre, hTe, hDe⟩ := need_d hT8 hD8 fu 41
          exact ⟨u, by rw [er, cv_s, ck_t (show (kd 2).1 = 9 from rfl), ee, cv_s], WK_t (WK_w fr3) (WK_t fr8 (WK_w fre)), hTe, hQ8.w fre, hDe⟩
        by_cases c60 : t < 60
        · rw [tk_t c60] at co3 ⊢
          obtain ⟨s8, e8, fr8, hT8, hQ8, co8⟩ := O1 (t + 1) _ s3 hT3 co3.1 hC3 (by omega)
          cases hp : pOrF b n (pNt b n d) (t + 1) with
          | inr e =>
            rw [hp] at co8
            exact dead _ _ s8 hT8 hQ8 co8 e8 fr8
          | inl y =>
            obtain ⟨y, t2⟩ := y
            rw [hp] at co8
            obtain ⟨h8, hC8⟩ := co8
            have hC8 : CG q (c ++ y.1) s8 := hC8
            obtain ⟨u, ee, fre, hTe, coe⟩ := need_l hT8 (show TC b n 60 t2 s8 from h8) hf (c := 41) (by omega) (by omega)
            have eu : (cv ((F_X7_readOr fu (D + 1 + 1)).1 4 2 (nI (12 - d)) s3) fun s6 => ck ((kd 2).1 = 9) <| cv (f_X9_need fu 2 41 s6) fun s7 => some s7) = some u := by rw [e8, cv_s, ck_t (show (kd 2).1 = 9 from rfl), show f_X9_need fu 2 41 s8 = some u from ee, cv_s]
            refine ⟨u, eu, WK_t (WK_w fr3) (WK_t fr8 (WK_w fre)), hTe, hQ8.w fre, ?_⟩
            rw [pb_i]
            cases hp2 : pS b n 41 t2 with
            | inr e => rw [hp2] at coe; exact coe
            | inl z =>
              rw [hp2] at coe
              exact ⟨coe.1, hC8.w hq fre⟩
        · rw [tk_f c60] at co3 ⊢
          obtain ⟨s8, e8, fr8, hT8, hQ8, hD8⟩ := OD _ _ s3 hT3 co3 (hC3.dq (by omega))
          exact dead _ _ s8 hT8 hQ8 hD8 e8 fr8
      · rw [if_neg c40, if_neg c40, if_pos (show nI 0 = 0 from rfl), ck_t (show (kd 4).1 = 7 from rfl)]
        obtain ⟨u, u1, u2⟩ := term_p2 hT hq hC h hl hf
        exact ⟨u, by rw [u1, cv_s], u2⟩
/-- the whole text, up to the swap -/
theorem rl_33 {s : St} (hT : Top s) {q o m : Nat} (hq : QK q) (ho : QK o) (hm : m < 8) (h1 : gR s 4 3 = q) (h2 : gR s (8 + 2 * m) 12 = o) (fu : Nat) : b_X7_readLock_33 fu 4 2 (nI m) s = some (if gI s 2 8 = nI 0 then sR (sI (sR s (8 + 2 * m) 12 q) (8 + 2 * m) 13 (gI s 4 4)) 4 3 o else s) := by
  obtain ⟨r5, k5⟩ := axR hm hT
  obtain ⟨q0, -⟩ := hq
  obtain ⟨o0, -⟩ := ho
  by_cases c : gI s 2 8 = nI 0
  · rw [if_pos c]
    simp (disch := first | decide | omega) [↓bd_e, isb, ck_tt, NP, NF, NC, NB, NS, GS, kdC, tpC hT, b_X7_readLock_33, b_X7_readLock_75, c, r5, k5, h1, h2, q0, o0]
  · rw [if_neg c]
    simp (disch := first | decide | omega) [↓bd_e, isb, ck_tt, NP, NF, NC, NB, NS, GS, kdC, tpC hT, b_X7_readLock_33, b_X7_readLock_75, c]
theorem rl_c {st : St} (hT : Top st) {b : BY} {n : Nat} (h1 : gI st 2 1 = nI n) (h2 : n ≤ 4000) (h3 : ∀ i, i < n → gI st 3 i = b i) (h4 : ∀ i, i < n → b i ≤ nI 127) {fu : Nat} (hf : 4100 ≤ fu) {q o m : Nat} (hq : QK q) (ho : QK o) (hm : m < 8) (r1 : gR st 4 3 = q) (r2 : gR st (8 + 2 * m) 12 = o) : ∃ s, f_X7_readLock fu 4 2 (nI m) st = some (if gI s 2 8 = nI 0 then sR (sI (sR s (8 + 2 * m) 12 q) (8 + 2 * m) 13 (gI s 4 4)) 4 3 o else s) ∧ Fr ((2, some 7) :: WK q) st s ∧ Top s ∧ COl b n (pLock b n) (fun x => CG q x.1 s) s := by
  have q4 := hq.h
  obtain ⟨s0, hs0⟩ : ∃ s0, s0 = sI st 4 4 (nI 0) := ⟨_, rfl⟩
  have f0 : Fr [(4, some 4)] st s0 := by rw [hs0]; exact Fr.i _ _ _ _
  have hT0 : Top s0 := hT.r (by rw [hs0]; rfl)
  obtain ⟨s1, e1, fr1, hT1, hC1⟩ := open_c hT0 (b := b) (n := n) (by rw [f0.ki 2 1 (by decide)]; exact h1) h2 (fun i hi => by rw [f0.fi 3 (by decide)]; exact h3 i hi) h4 hf (lim := 60) (by omega)
  have g1 : CG q [] s1 := by
    refine ⟨?_, ?_, fun i hi => absurd hi (by simp)⟩
    · rw [fr1.fr 4 (by decide), (f0 4 3 (by decide)).2.2]; exact r1
    · rw [fr1.fi 4 (by decide), hs0, gI_sI]; simp
  have N : NotP b n q (F_X7_readOr fu 30).1 (nI 0) (pOrF b n (pNt b n 12)) := by
    have := ro_p hq hf (rO := (F_X7_readOr fu 29).1) (rn_p hq hf 12 29 (by omega) (by omega)) (rn_d _ _ _ : NotD b n q (F_X7_readOr fu 29).2 (nI (12 - 12))) (pNt_i 12)
    exact this
  obtain ⟨s2, e2, fr2, hT2, hQ2, co2⟩ := N 0 [] s1 hT1 hC1 g1 (by simp)
  have FR : Fr ((2, some 7) :: WK q) st s2 := ((f0.tr fr1).tr fr2).wd (by simp [within', WK, WT])
  have qm : q ≠ 8 + 2 * m := fun e => by
    have := (axR hm hT).2
    rw [← e, hq.2] at this
    exact absurd this (by decide)
  have o8 : ∀ s, Fr ((2, some 7) :: WK q) st s → gR s (8 + 2 * m) 12 = o := fun s fr => by
    rw [fr.fr (8 + 2 * m) (by simp [WK] <;> omega)]; exact r2
  have fin : ∀ s, (if gI s2 2 2 = 0 then b_X7_readLock_33 fu 4 2 (nI m) s2 else (ck ((kd 2).1 = 9) <| ck ((kd 2).1 = 9) <| cv (f_X9_fail fu 2 1 (gI s2 2 3) s2) fun s11 => b_X7_readLock_33 fu 4 2 (nI m) s11)) = b_X7_readLock_33 fu 4 2 (nI m) s → Top s → Fr ((2, some 7) :: WK q) st s → DQ q s → f_X7_readLock fu 4 2 (nI m) st = some (if gI s 2 8 = nI 0 then sR (sI (sR s (8 + 2 * m) 12 q) (8 + 2 * m) 13 (gI s 4 4)) 4 3 o else s) := fun s e hTs frs hQs => by
    rw [← rl_33 hTs hq ho hm hQs.1 (o8 s frs) fu, ← e]
    unfold f_X7_readLock
    rw [ck_t (show (kd 4).1 = 7 from rfl), bd_e, ck_t (show (kd 2).1 = 9 from rfl), show f_X9_open fu 2 60 (sI st 4 4 0) = some s1 by rw [← e1, hs0]; rfl, cv_s, ck_t (show (kd 4).1 = 7 from rfl), show f_X7_readOr fu 4 2 0 s1 = some s2 from e2, cv_s, ck_t (show (kd 2).1 = 9 from rfl)]
  unfold pLock
  cases hp : pOrF b n (pNt b n 12) 0 with
  | inr e =>
    rw [hp] at co2
    have hD : TD b n 60 e.1 e.2 s2 := co2
    refine ⟨s2, fin s2 ?_ hT2 FR hQ2, FR, hT2, hD⟩
    rw [if_pos (show gI s2 2 2 = 0 from hD.2.2.2.2.2.2)]
  | inl x =>
    obtain ⟨x, t⟩ := x
    rw [hp] at co2
    obtain ⟨hC2, hG2⟩ := co2
    have hC2 : TC b n 60 t s2 := hC2
    have hG2 : CG q ([] ++ x.1) s2 := hG2
    have k2 : gI s2 2 2 = nI (kc (so b n t)) := hC2.2.2.2.2.1
    rw [pb_i]
    by_cases s0 : so b n t = 0
    · rw [if_pos s0]
      refine ⟨s2, fin s2 ?_ hT2 FR hQ2, FR, hT2, hC2, hG2⟩
      rw [k2, s0, if_pos (show nI (kc 0) = 0 from rfl)]
    · rw [if_neg s0]
      have kk : kc (so b n t) ≠ 0 ∧ kc (so b n t) < 10 := by
        unfold kc
        by_cases h1 : so b n t = 3
        · rw [if_pos h1]; omega
        · rw [if_neg h1]
          by_cases h2 : 3 < so b n t
          · rw [if_pos h2]; omega
          · rw [if_neg h2]; omega
      obtain ⟨s3, u1, u2, u3, u4⟩ := fail_c hT2 hC2.1 hC2.2.1.1 fu (f := 1) (p := pl b n t) (by omega) (by omega) (pl_b b n t).2
      have FR3 : Fr ((2, some 7) :: WK q) st s3 := (FR.tr u2).wd (by simp [within', WK, WT])
      refine ⟨s3, fin s3 ?_ u3 FR3 (hQ2.w u2), FR3, u3, u4⟩
      rw [k2, if_neg (show ¬ nI (kc (so b n t)) = (0 : Int32) from fun z => kk.1 ((nI_eq (a := kc (so b n t)) (b := 0) (by omega) (by omega)).mp z)), ck_t (show (kd 2).1 = 9 from rfl), ck_t (show (kd 2).1 = 9 from rfl), hC2.2.2.1, show f_X9_fail fu 2 1 (nI (pl b n t)) s2 = some s3 from u1, cv_s]
