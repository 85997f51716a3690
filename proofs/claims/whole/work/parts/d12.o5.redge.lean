/-! PURE: the reference's edges in its cells -/
/-- a chain of edges -/
def chn (af : Nat → Int32) : Int32 → List Nat → Prop
  | x, [] => x = -nI 1
  | x, e :: L => x = nI e ∧ chn af (af e) L
theorem chn.c {af af' : Nat → Int32} : ∀ (L : List Nat) (x : Int32), (∀ e, e ∈ L → af' e = af e) → chn af x L → chn af' x L := by
  intro L
  induction L with
  | nil => intro x _ h; exact h
  | cons e L ih =>
    intro x he h
    obtain ⟨h1, h2⟩ := h
    show x = nI e ∧ chn af' (af' e) L
    refine ⟨h1, ?_⟩
    rw [he e (List.mem_cons_self ..)]
    exact ih _ (fun a ha => he a (List.mem_cons_of_mem _ ha)) h2
def RE (G : NW) (X : Nat → Prop) (N : Nat) (kap : Nat → Nat) (adj : Nat → List Nat) (g : Nat → Nat) (st : St) : Prop := gI st 153 123 = nI (2 * N) ∧ KA X N kap ∧ (∀ e, e < 2 * N → gI st 257 e = nI (rD G kap e) ∧ gI st 258 e = nI (rR G kap g e)) ∧ (∀ s, s < 612 → chn (gI st 256) (gI st 255 s) (adj s)) ∧ (∀ s e, s < 612 → (e ∈ adj s ↔ (e < 2 * N ∧ rS G kap e = s))) ∧ (∀ s, (adj s).length ≤ 2 * N) ∧ ∀ j, j < N → g (kap j) ≤ cp G (kap j)
theorem RE.c {G : NW} {X Y : Nat → Prop} {N : Nat} {kap : Nat → Nat} {adj : Nat → List Nat} {g : Nat → Nat} {st : St} (h : RE G X N kap adj g st) (e : ∀ a, X a ↔ Y a) : RE G Y N kap adj g st := ⟨h.1, h.2.1.c e, h.2.2⟩
theorem RE.fr {G : NW} {X : Nat → Prop} {N : Nat} {kap : Nat → Nat} {adj : Nat → List Nat} {g : Nat → Nat} {st u : St} (h : RE G X N kap adj g st) (e0 : gI u 153 123 = gI st 153 123) (e1 : gI u 255 = gI st 255) (e2 : gI u 256 = gI st 256) (e3 : gI u 257 = gI st 257) (e4 : gI u 258 = gI st 258) : RE G X N kap adj g u := by
  unfold RE at h ⊢
  rw [e0, e1, e2, e3, e4]
  exact h
theorem kV.ne {G : NW} (ok : G.ok) {T a : Nat} (hT : T ≤ 50) (h : kV G T a) : kS G a ≠ kD G a := by
  unfold kD kS
  rcases h with ⟨h1, h2, h3⟩ | ⟨h1, h2, h3⟩
  · rw [if_pos h1, if_pos h1]
    have := ok.2 _ h2
    omega
  · rw [if_neg (by omega), if_neg (by omega)]
    omega
theorem cp_le {G : NW} (ok : G.ok) {T a : Nat} (h : kV G T a) : cp G a ≤ 6000 := by
  unfold cp
  rcases h with ⟨h1, h2, h3⟩ | ⟨h1, h2, h3⟩
  · rw [if_pos h1]
    have := ok.2 _ h2
    omega
  · rw [if_neg (by omega)]; omega
def edU (st : St) (c a b k : Nat) : St := sI (sI (sI (sI (sI (sI (sI (sI (sI (sI st 257 c (nI b)) 258 c (nI k)) 256 c (gI st 255 a)) 255 a (nI c)) 153 123 (nI (c + 1))) 257 (c + 1) (nI a)) 258 (c + 1) (nI 0)) 256 (c + 1) (gI st 255 b)) 255 b (nI (c + 1))) 153 123 (nI (c + 1 + 1))
def edH (th : Nat) (p1 : Int32) (p2 : Int32) (p3 : Int32) (st : St) (K : St → Option St) : Option (St) :=
  ck (¬ gR st th 121 = 0) <|
  ck ((kd th).1 = 12) <|
  bd (gR st th 121) fun o1 =>
  ck ((kd th).1 = 12) <|
  ck ((kd o1).1 = 100 ∧ inb (gI st th 123) (kd o1).2) <|
  bd (sI st o1 (ix (gI st th 123)) p2) fun s2 =>
  ck (¬ gR s2 th 122 = 0) <|
  ck ((kd th).1 = 12) <|
  bd (gR s2 th 122) fun o3 =>
  ck ((kd th).1 = 12) <|
  ck ((kd o3).1 = 100 ∧ inb (gI s2 th 123) (kd o3).2) <|
  bd (sI s2 o3 (ix (gI s2 th 123)) p3) fun s4 =>
  ck (¬ gR s4 th 120 = 0) <|
  ck ((kd th).1 = 12) <|
  bd (gR s4 th 120) fun o5 =>
  ck ((kd th).1 = 12) <|
  ck (¬ gR s4 th 119 = 0) <|
  ck ((kd th).1 = 12) <|
  bd (gR s4 th 119) fun o6 =>
  ck ((kd o6).1 = 100 ∧ inb p1 (kd o6).2) <|
  ck ((kd o5).1 = 100 ∧ inb (gI s4 th 123) (kd o5).2) <|
  bd (sI s4 o5 (ix (gI s4 th 123)) (gI s4 o6 (ix p1))) fun s7 =>
  ck (¬ gR s7 th 119 = 0) <|
  ck ((kd th).1 = 12) <|
  bd (gR s7 th 119) fun o8 =>
  ck ((kd th).1 = 12) <|
  ck ((kd o8).1 = 100 ∧ inb p1 (kd o8).2) <|
  bd (sI s7 o8 (ix p1) (gI s7 th 123)) fun s9 =>
  ck ((kd th).1 = 12) <|
  ck ((kd th).1 = 12) <|
  bd (sI s9 th 123 ((gI s9 th 123) + 1)) fun s10 =>
  K s10
set_option maxRecDepth 100000 in
theorem edH_p {st : St} (hT : Top st) {c a b k : Nat} (hc : c < 3264) (ha : a < 612) (hb : b < 612) (hk : k ≤ 6000) (h : gI st 153 123 = nI c) (K : St → Option St) : edH 153 (nI a) (nI b) (nI k) st K = K (sI (sI (sI (sI (sI st 257 c (nI b)) 258 c (nI k)) 256 c (gI st 255 a)) 255 a (nI c)) 153 123 (nI (c + 1))) := by
  simp (disch := first | decide | omega) [↓bd_e, isb, ck_tt, NP, NF, NC, NB, NS, GS, kdR, tpR hT, edH, h]
theorem edge_p {st : St} (hT : Top st) (fu : Nat) {c a b k : Nat} (hc : c + 1 < 3264) (ha : a < 612) (hb : b < 612) (hab : a ≠ b) (hk : k ≤ 6000) (h : gI st 153 123 = nI c) : f_X12_edge fu 153 (nI a) (nI b) (nI k) st = some (edU st c a b k) := by
  have e0 : f_X12_edge fu 153 (nI a) (nI b) (nI k) st = edH 153 (nI a) (nI b) (nI k) st (fun s => edH 153 (nI b) (nI a) (nI 0) s some) := rfl
  rw [e0, edH_p hT (by omega) ha hb hk h]
  obtain ⟨u, hu⟩ : ∃ u, u = sI (sI (sI (sI (sI st 257 c (nI b)) 258 c (nI k)) 256 c (gI st 255 a)) 255 a (nI c)) 153 123 (nI (c + 1)) := ⟨_, rfl⟩
  have g1 : gR u = gR st := by rw [hu]; rfl
  have h1 : gI u 153 123 = nI (c + 1) := by rw [hu, gI_sI, if_pos ⟨rfl, rfl⟩]
  have h2 : gI u 255 b = gI st 255 b := by
    rw [hu, gI_sI, if_neg (fun q => absurd q.1 (by decide)), gI_sI, if_neg (fun q => hab q.2.symm), gI_sI, if_neg (fun q => absurd q.1 (by decide)), gI_sI, if_neg (fun q => absurd q.1 (by decide)), gI_sI, if_neg (fun q => absurd q.1 (by decide))]
  rw [← hu]
  show edH 153 (nI b) (nI a) (nI 0) u some = _
  rw [edH_p (hT.r g1) (by omega) hb ha (by omega) h1, h2, hu]
  rfl
def W_ed : List PL := [(153, some 123), (255, none), (256, none), (257, none), (258, none)]
theorem edU_fr (st : St) (c a b k : Nat) : Fr W_ed st (edU st c a b k) := by
  unfold edU
  refine Fr.wd ((((((((((Fr.ia st 257 c (nI b)).tr (Fr.ia _ 258 c (nI k))).tr (Fr.ia _ 256 c (gI st 255 a))).tr (Fr.ia _ 255 a (nI c))).tr (Fr.i _ 153 123 (nI (c + 1)))).tr (Fr.ia _ 257 (c + 1) (nI a))).tr (Fr.ia _ 258 (c + 1) (nI 0))).tr (Fr.ia _ 256 (c + 1) (gI st 255 b))).tr (Fr.ia _ 255 b (nI (c + 1)))).tr (Fr.i _ 153 123 (nI (c + 1 + 1)))) (by decide)
theorem edge_r {G : NW} (ok : G.ok) {X : Nat → Prop} {N : Nat} {kap : Nat → Nat} {adj : Nat → List Nat} {g : Nat → Nat} {st : St} (hT : Top st) (hR : RE G X N kap adj g st) (fu : Nat) {k : Nat} (hX : ∀ a, X a → kV G 50 a) (hk : ¬ X k) (hk5 : kV G 50 k) (hg : g k = 0) : ∃ adj' u, f_X12_edge fu 153 (nI (kS G k)) (nI (kD G k)) (nI (cp G k)) st = some u ∧ Fr W_ed st u ∧ gR u = gR st ∧ RE G (fun a => X a ∨ a = k) (N + 1) (updN kap N k) adj' g u := by
  obtain ⟨h1, h2, h3, h4, h5, h6, h7⟩ := hR
  have K := h2.add hk
  have hN : N + 1 ≤ 1632 := pig 1632 (N + 1) (updN kap N k) (fun i hi => by
    rcases K.1 i hi with q | q
    · exact (hX _ q).lt
    · rw [q]; exact hk5.lt) K.2.1
  have d := hk5.dst ok (Nat.le_refl _)
  have ne := hk5.ne ok (Nat.le_refl _)
  have e := edge_p hT fu (c := 2 * N) (by omega) d.2 d.1 ne (cp_le ok hk5) h1
  obtain ⟨a, ha⟩ : ∃ a, a = kS G k := ⟨_, rfl⟩
  obtain ⟨b, hb⟩ : ∃ b, b = kD G k := ⟨_, rfl⟩
  rw [← ha, ← hb] at e ne d
  rw [← ha, ← hb]
  have old : ∀ i, i < N → updN kap N k i = kap i := fun i hi => updN_n _ _ (by omega)
  have new : updN kap N k N = k := updN_s _ _ _
  have r7 : ∀ e, gI (edU st (2 * N) a b (cp G k)) 257 e = if e = 2 * N + 1 then nI a else if e = 2 * N then nI b else gI st 257 e := fun e => by simp [edU, gI_sI]
  have r8 : ∀ e, gI (edU st (2 * N) a b (cp G k)) 258 e = if e = 2 * N + 1 then nI 0 else if e = 2 * N then nI (cp G k) else gI st 258 e := fun e => by simp [edU, gI_sI]
  have r6 : ∀ e, gI (edU st (2 * N) a b (cp G k)) 256 e = if e = 2 * N + 1 then gI st 255 b else if e = 2 * N then gI st 255 a else gI st 256 e := fun e => by simp [edU, gI_sI]
  have r5 : ∀ e, gI (edU st (2 * N) a b (cp G k)) 255 e = if e = b then nI (2 * N + 1) else if e = a then nI (2 * N) else gI st 255 e := fun e => by simp [edU, gI_sI]
  have r0 : gI (edU st (2 * N) a b (cp G k)) 153 123 = nI (2 * (N + 1)) := by rw [edU, gI_sI, if_pos ⟨rfl, rfl⟩, show 2 * N + 1 + 1 = 2 * (N + 1) by omega]
  have mo : ∀ (s : Nat) (x : Int32), s < 612 → chn (gI st 256) x (adj s) → chn (gI (edU st (2 * N) a b (cp G k)) 256) x (adj s) := fun s x hs hx => hx.c _ _ fun e he => by
    have := ((h5 s e hs).mp he).1
    rw [r6, if_neg (by omega), if_neg (by omega)]
  refine ⟨fun s => if s = b then (2 * N + 1) :: adj s else if s = a then (2 * N) :: adj s else adj s, _, e, edU_fr _ _ _ _ _, rfl, r0, K, fun e he => ?_, fun s hs => ?_, fun s e hs => ?_, fun s => ?_, fun j hj => ?_⟩
  · rw [r7, r8]
    by_cases q1 : e = 2 * N + 1
    · rw [if_pos q1, if_pos q1, q1, rD1, rR1, new, hg, ← ha]; exact ⟨rfl, rfl⟩
    · rw [if_neg q1, if_neg q1]
      by_cases q2 : e = 2 * N
      · rw [if_pos q2, if_pos q2, q2, rD0, rR0, new, hg, ← hb]; exact ⟨rfl, rfl⟩
      · rw [if_neg q2, if_neg q2]
        have := h3 e (by omega)
        unfold rD rR at this ⊢
        rw [old (e / 2) (by omega)]
        exact this
  · rw [r5]
    show chn _ _ (if s = b then (2 * N + 1) :: adj s else if s = a then (2 * N) :: adj s else adj s)
    by_cases q1 : s = b
    · rw [if_pos q1, if_pos q1]
      show nI (2 * N + 1) = nI (2 * N + 1) ∧ chn (gI (edU st (2 * N) a b (cp G k)) 256) (gI (edU st (2 * N) a b (cp G k)) 256 (2 * N + 1)) (adj s)
      refine ⟨rfl, ?_⟩
      rw [r6, if_pos rfl]
      exact mo s _ hs (by rw [← q1]; exact h4 s hs)
    · rw [if_neg q1, if_neg q1]
      by_cases q2 : s = a
      · rw [if_pos q2, if_pos q2]
        show nI (2 * N) = nI (2 * N) ∧ chn (gI (edU st (2 * N) a b (cp G k)) 256) (gI (edU st (2 * N) a b (cp G k)) 256 (2 * N)) (adj s)
        refine ⟨rfl, ?_⟩
        rw [r6, if_neg (by omega), if_pos rfl]
        exact mo s _ hs (by rw [← q2]; exact h4 s hs)
      · rw [if_neg q2, if_neg q2]
        exact mo s _ hs (h4 s hs)
  · have main : (e ∈ (if s = b then (2 * N + 1) :: adj s else if s = a then (2 * N) :: adj s else adj s)) ↔ (e ∈ adj s ∨ (e = 2 * N + 1 ∧ s = b) ∨ (e = 2 * N ∧ s = a)) := by
      by_cases q1 : s = b
      · rw [if_pos q1, List.mem_cons]
        constructor
        · rintro (c | c)
          · exact Or.inr (Or.inl ⟨c, q1⟩)
          · exact Or.inl c
        · rintro (c | ⟨c, -⟩ | ⟨-, c⟩)
          · exact Or.inr c
          · exact Or.inl c
          · exact absurd (c.symm.trans q1) ne
      · rw [if_neg q1]
        by_cases q2 : s = a
        · rw [if_pos q2, List.mem_cons]
          constructor
          · rintro (c | c)
            · exact Or.inr (Or.inr ⟨c, q2⟩)
            · exact Or.inl c
          · rintro (c | ⟨-, c⟩ | ⟨c, -⟩)
            · exact Or.inr c
            · exact absurd c q1
            · exact Or.inl c
        · rw [if_neg q2]
          constructor
          · exact fun c => Or.inl c
          · rintro (c | ⟨-, c⟩ | ⟨-, c⟩)
            · exact c
            · exact absurd c q1
            · exact absurd c q2
    refine main.trans ?_
    rw [h5 s e hs]
    have ro : e < 2 * N → rS G (updN kap N k) e = rS G kap e := fun he => by
      unfold rS
      rw [old (e / 2) (by omega)]
    constructor
    · rintro (⟨c1, c2⟩ | ⟨c1, c2⟩ | ⟨c1, c2⟩)
      · exact ⟨by omega, by rw [ro c1]; exact c2⟩
      · exact ⟨by omega, by rw [c1, rS1, new, c2, hb]⟩
      · exact ⟨by omega, by rw [c1, rS0, new, c2, ha]⟩
    · rintro ⟨c1, c2⟩
      by_cases q1 : e = 2 * N + 1
      · rw [q1, rS1, new, ← hb] at c2; exact Or.inr (Or.inl ⟨q1, c2.symm⟩)
      · by_cases q2 : e = 2 * N
        · rw [q2, rS0, new, ← ha] at c2; exact Or.inr (Or.inr ⟨q2, c2.symm⟩)
        · rw [ro (by omega)] at c2; exact Or.inl ⟨by omega, c2⟩
  · show (if s = b then (2 * N + 1) :: adj s else if s = a then (2 * N) :: adj s else adj s).length ≤ 2 * (N + 1)
    have := h6 s
    by_cases q1 : s = b
    · rw [if_pos q1, List.length_cons]; omega
    · rw [if_neg q1]
      by_cases q2 : s = a
      · rw [if_pos q2, List.length_cons]; omega
      · rw [if_neg q2]; omega
  · by_cases q : j = N
    · rw [q, new, hg]; exact Nat.zero_le _
    · rw [old j (by omega)]; exact h7 j (by omega)
