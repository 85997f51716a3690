/-! PURE: the invariant at the start -/
theorem i_txt : P_txt stI := ⟨⟨zF (by decide) (by decide), by rw [iC1.1, iC1.2.1], 0, by omega, iC1.1⟩, iC1.2.2.1, fun k => by rw [zO (o := 3) (by decide)]; decide⟩
theorem i_wire : P_wire stI := by
  refine ⟨zF (by decide) (by decide), zF (by decide) (by decide), by rw [ini_a.1, ini_a.2.1], fun k => ?_, fun k => ?_, ?_, ?_⟩
  · rw [zO (o := 28) (by decide)]; decide
  · rw [zO (o := 29) (by decide)]; decide
  · rw [ini_a.1]; decide
  · rw [ini_a.1]; decide
theorem i_ways : P_ways stI := by
  refine ⟨0, by omega, iC1.2.2.2.1, iC1.2.2.2.2.1, zF (by decide) (by decide), zF (by decide) (by decide), zF (by decide) (by decide), zF (by decide) (by decide), zF (by decide) (by decide), fun k => ⟨0, by omega, ?_⟩, fun k _ => zO (by decide) k, fun w hw => by omega, fun v hv => ⟨iC1.2.2.2.2.2.1 v hv, fun j x h => ?_⟩⟩
  · rw [zO (o := 144) (by decide)]; rfl
  · have e : inc (gI stI 140) (gI stI 141) v 0 = [] := rfl
    rw [e] at h; simp at h
theorem i_218 : ∀ d, gI stI 218 d = 0 ∨ gI stI 218 d = 1 := fun d => by
  rcases Nat.lt_or_ge d 4 with h | h
  · exact Or.inr (iC1.2.2.2.2.2.2.2.1 d h).1
  · exact Or.inl (stI_big.1 218 d (by decide) (by rw [show (kd 218).2 = 4 by decide]; omega))
theorem i_hall : P_hall stI := by
  refine ⟨zF (by decide) (by decide), fun k => ⟨0, by omega, ?_⟩, zF (by decide) (by decide), fun r => ⟨0, by omega, ?_⟩, zF (by decide) (by decide), fun r k n _ _ _ => zO (by decide) _, fun k => Or.inl (zO (by decide) k), fun r hr _ => iC1.2.2.2.2.2.2.1 r hr, fun r h => absurd (zO (by decide) r) h, fun d => ⟨i_218 d, fun hd => ?_⟩⟩
  · rw [zO (o := 116) (by decide)]; rfl
  · rw [zO (o := 118) (by decide)]; rfl
  · have := iC1.2.2.2.2.2.2.2.1 d hd
    rw [this.1, this.2]; decide
theorem sm_z (n : Nat) : sm n (fun _ => 0) = 0 := by
  induction n with
  | zero => rfl
  | succ n ih => simp [sm, ih]
theorem i_box : P_box stI := by
  have z := iC2
  refine ⟨fun _ => 0, fun _ => 0, fun _ => 0, fun _ => 0, 0, fun _ => 0, fun _ => 0, fun _ => 0, fun _ => 0, fun _ => 0, fun k => ?_, fun h hh => ⟨⟨(iC1.2.2.2.2.2.2.2.2 h hh).1, Nat.zero_le _, (iC1.2.2.2.2.2.2.2.2 h hh).2⟩, fun q => absurd q (Nat.lt_irrefl 0)⟩, ⟨⟨by omega, z.1, z.2.1⟩, fun t ht => by omega, fun t _ => ⟨zO (by decide) t, zO (by decide) t⟩⟩, ?_⟩
  · rw [zO (o := 119) (by decide)]; rfl
  · refine ⟨?_, z.2.2.2.1, z.2.2.2.2.1, z.2.2.2.2.2.1, z.2.2.2.2.2.2.1, z.2.2.2.2.2.2.2.1⟩
    rw [show (fun h : Nat => if (0 : Nat) = 0 then 0 else 1) = fun _ => (0 : Nat) from rfl, sm_z]
    exact z.2.2.1
theorem i_rul : P_rul stI := by
  have z := iC2.2.2.2.2.2.2.2.2
  exact ⟨(122, 123, 0, fun _ => 0, fun _ => 0, fun _ => 0, fun _ => 0, fun _ => 0, fun _ => 0, fun _ => 0, fun _ => 0, fun _ => 0, fun _ => 0), z.1, z.2.1, Or.inl ⟨rfl, rfl⟩, Nat.zero_le _, z.2.2.1, z.2.2.2.1, fun i hi => absurd hi (Nat.not_lt_zero _)⟩
theorem i_sh : P_sh stI := by
  have z := iC2.2.2.2.2.2.2.2.2.2.2.2.2
  exact ⟨135, 136, fun _ => 0, z.1, z.2.1, Or.inl ⟨rfl, rfl⟩, fun k hk => ⟨z.2.2.1 k hk, Nat.zero_le _, fun _ => Nat.zero_le _⟩, fun p hp => z.2.2.2 p hp⟩
theorem i_ls : P_ls 0 stI := by
  have z := iC3
  refine ⟨0, 30, fun l => 44 + 18 * l, fun _ => 0, fun _ => 0, fun _ => D0, by omega, z.1, z.2.1, ⟨z.2.2.1, Or.inl rfl, fun l hl => ?_⟩, fun l hl => ⟨?_, ?_⟩, fun ch h1 h2 => ?_⟩
  · have q := z.2.2.2.1 l hl
    refine ⟨q.1, ?_, ?_, fun m hm hn => ?_, ⟨q.2.1, fun x hx => absurd hx (Nat.not_lt_zero _), ⟨q.2.2.1, fun i hi => absurd hi (Nat.not_lt_zero _)⟩, fun i hi => ?_⟩, LOK_0, ⟨q.2.2.2.2.1, fun i hi => absurd hi (Nat.not_lt_zero _), fun i hi => absurd hi (Nat.not_lt_zero _)⟩⟩
    · show SQ (44 + 18 * l)
      unfold SQ
      omega
    · show 44 + 18 * l ≠ 30
      omega
    · show 44 + 18 * m ≠ 44 + 18 * l
      omega
    · have hi : i ≤ 0 := hi
      have : i = 0 := by omega
      subst this
      exact q.2.2.2.1
  · obtain ⟨-, -, -, -, -, q5, q6, q7, q8, q9, q10, q11, q12, -⟩ := z.2.2.2.1 l hl
    exact ⟨by rw [q5, q6], Or.inl q5, Or.inr ⟨q7, q8, Or.inl ⟨q9, q10⟩⟩, 255, by omega, q11, q12⟩
  · refine ⟨(z.2.2.2.1 l hl).2.2.2.2.2.2.2.2.2.2.2.2.2, fun ch hc => ⟨0, 0, 0, 0, ?_⟩⟩
    have q := iC4 l hl ch hc
    exact ⟨by omega, by omega, by omega, by omega, q.1, q.2.1, q.2.2.1, q.2.2.2.1, q.2.2.2.2.1, q.2.2.2.2.2.1, fun _ => q.2.2.2.2.2.2, fun h => absurd (Or.inl rfl) h⟩
  · have q := z.2.2.2.2 ch h2
    exact ⟨by rw [q.1, q.2], Or.inl q.1⟩
theorem i_ax : P_ax stI := by
  have z := iC5
  exact ⟨fun n k hn hk => z.1 n hn k hk, fun n hn => Or.inl ⟨(z.2.1 n hn).1, (z.2.1 n hn).2.1⟩, by rw [z.2.2.1, z.2.2.2.1], Or.inl z.2.2.1, fun e => absurd e (by rw [z.2.2.1]; decide)⟩
theorem i_ev : P_ev stI := ⟨zF (by decide) (by decide), fun k => Or.inl (zO (by decide) k)⟩
theorem i_lk : P_lk stI := by
  have z := iC5
  have y : ∀ m, m < 8 → gR stI (8 + 2 * m) 12 = 9 + 2 * m := fun m hm => (z.2.1 m hm).2.2.1
  refine ⟨⟨⟨0, by omega, z.2.2.2.2⟩, fun m hm => ⟨⟨m + 1, by omega, by rw [y m hm]; omega⟩, by rw [y m hm, z.2.2.2.2]; omega⟩, fun m k hm hk hn => by rw [y m hm, y k hk]; omega⟩, fun _ => none, fun m hm => ?_, fun m hm => (z.2.1 m hm).2.2.2.2⟩
  refine ⟨by simp, (z.2.1 m hm).2.2.2.1, 9 + 2 * m, y m hm, by omega, ?_, fun i h => absurd h (Nat.not_lt_zero _)⟩
  have : ∀ m, m < 8 → kd (9 + 2 * m) = (100, 60) := by decide
  exact this m hm
theorem inv_I : Inv 0 stI := ⟨ini_top, i_txt, i_wire, i_ways, ⟨i_hall, i_box⟩, i_rul, i_sh, i_ls, i_ax, i_ev, i_lk⟩
/-- what is left: empty -/
theorem law_of (hE : ∀ st, Top st → P_ways st → Two (f_X11_empty 10000 1) (f_X12_empty 10000 153) W_em (fun _ => True) st) : ∀ (xs : Nat → Int32) (L : Nat), L ≤ 448 → ∃ fu, law_f fu xs L st0 = some 1 := fun xs L hL => by
  refine ⟨10000, ?_⟩
  obtain ⟨s, h1, h2⟩ := stI_1
  unfold law_f
  rw [ck_t (by decide), bd_e, cvO h1, ck_t (by decide), bd_e, cvO h2]
  exact law_pure (steps_ok (Nat.le_refl _) hE) hL 10000 0 stI (by omega) inv_I (by omega)
