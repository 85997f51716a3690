/-! PURE: the constructors write no place behind an array's end -/
def Big (st : St) : Prop := (∀ o k, 100 ≤ (kd o).1 → (kd o).2 ≤ k → gI st o k = 0) ∧ ∀ o k, (kd o).1 = 101 → gI st o k = 0
def Po (m : Option St) : Prop := ∀ s, m = some s → Big s
theorem po_none : Po none := fun s h => by cases h
theorem po_some {s : St} (h : Big s) : Po (some s) := fun t e => by cases e; exact h
theorem po_ck {c : Prop} [Decidable c] {K : Option St} (h : c → Po K) : Po (ck c K) := fun s e => by
  unfold ck at e
  by_cases q : c
  · rw [if_pos q] at e; exact h q s e
  · rw [if_neg q] at e; cases e
theorem po_ite {c : Prop} [Decidable c] {A B : Option St} (h : Po A) (h' : Po B) : Po (if c then A else B) := by
  by_cases q : c
  · rw [if_pos q]; exact h
  · rw [if_neg q]; exact h'
theorem po_v {α : Type} {v : α} {K : α → Option St} (h : ∀ x, Po (K x)) : Po (bd v K) := h v
theorem po_zr {st : St} {o : Nat} {K : St → Option St} (hB : Big st) (h : ∀ s, Big s → Po (K s)) : Po (bd (zr st o) K) := h _ ⟨fun a k h1 h2 => by
  show (if a = o then (0 : Int32) else gI st a k) = 0
  by_cases q : a = o
  · rw [if_pos q]
  · rw [if_neg q]; exact hB.1 a k h1 h2, fun a k h1 => by
  show (if a = o then (0 : Int32) else gI st a k) = 0
  by_cases q : a = o
  · rw [if_pos q]
  · rw [if_neg q]; exact hB.2 a k h1⟩
theorem po_R {st : St} {o k v : Nat} {K : St → Option St} (hB : Big st) (h : ∀ s, Big s → Po (K s)) : Po (bd (sR st o k v) K) := h _ hB
theorem po_f {st : St} {o k : Nat} {v : Int32} {K : St → Option St} (hB : Big st) (hk : (kd o).1 < 100) (h : ∀ s, Big s → Po (K s)) : Po (bd (sI st o k v) K) := h _ ⟨fun a j h1 h2 => by
  have ne : a ≠ o := fun e => by subst e; omega
  rw [gI_sI_n _ _ _ ne]; exact hB.1 a j h1 h2, fun a j h1 => by
  have ne : a ≠ o := fun e => by subst e; omega
  rw [gI_sI_n _ _ _ ne]; exact hB.2 a j h1⟩
theorem po_a {st : St} {o t : Nat} {x v : Int32} {K : St → Option St} (hB : Big st) (hk : (kd o).1 = t ∧ inb x (kd o).2) (ht : t ≠ 101) (h : ∀ s, Big s → Po (K s)) : Po (bd (sI st o (ix x) v) K) := h _ ⟨fun a j h1 h2 => by
  have q : ix x < (kd o).2 := by
    have : ¬ (kd o).2 ≤ x.toNatClampNeg := fun c => hk.2 (Or.inr c)
    show x.toNatClampNeg < _
    omega
  rw [gI_sI]
  rw [if_neg (fun c => by rw [c.1] at h2; omega)]
  exact hB.1 a j h1 h2, fun a j h1 => by
  have ne : a ≠ o := fun e => by subst e; exact ht (hk.1.symm.trans h1)
  rw [gI_sI_n _ _ _ ne]; exact hB.2 a j h1⟩
theorem po_cv {m : Option St} {K : St → Option St} (hm : Po m) (h : ∀ s, Big s → Po (K s)) : Po (cv m K) := by
  cases m with
  | none => exact po_none
  | some t => exact h t (hm t rfl)
theorem po_blk {c1 c2 : Prop} [Decidable c1] [Decidable c2] {st : St} {o v th m k d : Nat} {K : St → Option St} (hB : Big st) (h : ∀ s, Big s → Po (K s)) : Po (ck c1 <| ck c2 <| bd (zr st o) fun s => bd v fun x => ck (1 ≤ th ∧ th ≤ m) <| ck (¬ x = 0) <| ck ((kd th).1 = d) <| bd (sR s th k x) K) := po_ck fun _ => po_ck fun _ => po_zr hB fun _ hB => po_v fun _ => po_ck fun _ => po_ck fun _ => po_ck fun _ => po_R hB h
set_option maxRecDepth 100000 in
set_option maxHeartbeats 4000000 in
theorem z_J7_fill_53178_n_5 (fu : Nat) (n : Nat) : ∀ (i : Nat) (x0 : Nat) (x1 : Int32) (x2 : Int32) (x3 : Int32) (st : St), Big st → Po (b_J7_fill_53178_n_5 fu n i x0 x1 x2 x3 st) := by
  intro i
  induction i with
  | zero => intro x0 x1 x2 x3 st hB; exact po_none
  | succ i ih =>
    intro x0 x1 x2 x3 st hB
    show Po (b_J7_fill_53178_n_5_b fu n (b_J7_fill_53178_n_5 fu n i) x0 x1 x2 x3 st)
    unfold b_J7_fill_53178_n_5_b
    repeat' (first | exact po_some hB | refine po_zr hB (fun _ hB => ?_) | refine po_R hB (fun _ hB => ?_) | refine po_f hB (by rw [hk]; decide) (fun _ hB => ?_) | refine po_a hB hk (by decide) (fun _ hB => ?_) | exact ih _ _ _ _ _ hB | refine po_ck (fun hk => ?_) | refine po_ite ?_ ?_ | refine po_v (fun _ => ?_))
set_option maxRecDepth 100000 in
set_option maxHeartbeats 4000000 in
theorem z_J7_fill_53178_n (fu : Nat) (n : Nat) (p0 : Nat) (p1 : Int32) (st : St) (hB : Big st) : Po (f_J7_fill_53178_n fu n p0 p1 st) := by
  unfold f_J7_fill_53178_n
  repeat' (first | exact po_some hB | refine po_zr hB (fun _ hB => ?_) | refine po_R hB (fun _ hB => ?_) | refine po_f hB (by rw [hk]; decide) (fun _ hB => ?_) | refine po_a hB hk (by decide) (fun _ hB => ?_) | exact z_J7_fill_53178_n_5 _ _ _ _ _ _ _ _ hB | refine po_ck (fun hk => ?_) | refine po_ite ?_ ?_ | refine po_v (fun _ => ?_))
set_option maxRecDepth 100000 in
set_option maxHeartbeats 4000000 in
theorem z_X0_init (fu : Nat) (n : Nat) (th : Nat) (st : St) (hB : Big st) : Po (f_X0_init fu n th st) := by
  unfold f_X0_init
  repeat' (first | exact po_some hB | refine po_zr hB (fun _ hB => ?_) | refine po_R hB (fun _ hB => ?_) | refine po_f hB (by rw [hk]; decide) (fun _ hB => ?_) | refine po_a hB hk (by decide) (fun _ hB => ?_) | refine po_ck (fun hk => ?_) | refine po_ite ?_ ?_ | refine po_v (fun _ => ?_))
set_option maxRecDepth 100000 in
set_option maxHeartbeats 4000000 in
theorem z_X8_init (fu : Nat) (n : Nat) (th : Nat) (st : St) (hB : Big st) : Po (f_X8_init fu n th st) := by
  unfold f_X8_init
  repeat' (first | exact po_some hB | refine po_zr hB (fun _ hB => ?_) | refine po_R hB (fun _ hB => ?_) | refine po_f hB (by rw [hk]; decide) (fun _ hB => ?_) | refine po_a hB hk (by decide) (fun _ hB => ?_) | refine po_ck (fun hk => ?_) | refine po_ite ?_ ?_ | refine po_v (fun _ => ?_))
set_option maxRecDepth 100000 in
set_option maxHeartbeats 4000000 in
theorem z_X9_init (fu : Nat) (n : Nat) (th : Nat) (st : St) (hB : Big st) : Po (f_X9_init fu n th st) := by
  unfold f_X9_init
  repeat' (first | exact po_some hB | refine po_zr hB (fun _ hB => ?_) | refine po_R hB (fun _ hB => ?_) | refine po_f hB (by rw [hk]; decide) (fun _ hB => ?_) | refine po_a hB hk (by decide) (fun _ hB => ?_) | refine po_ck (fun hk => ?_) | refine po_ite ?_ ?_ | refine po_v (fun _ => ?_))
set_option maxRecDepth 100000 in
set_option maxHeartbeats 4000000 in
theorem z_X7_init_31 (fu : Nat) (n : Nat) : ∀ (i : Nat) (m : Nat) (x0 : Nat) (x1 : Int32) (st : St), Big st → Po (b_X7_init_31 fu n i m x0 x1 st) := by
  intro i
  induction i with
  | zero => intro m x0 x1 st hB; exact po_none
  | succ i ih =>
    intro m x0 x1 st hB
    show Po (b_X7_init_31_b fu n (b_X7_init_31 fu n i) m x0 x1 st)
    unfold b_X7_init_31_b
    repeat' (first | exact po_some hB | refine po_zr hB (fun _ hB => ?_) | refine po_R hB (fun _ hB => ?_) | refine po_f hB (by rw [hk]; decide) (fun _ hB => ?_) | refine po_a hB hk (by decide) (fun _ hB => ?_) | exact ih _ _ _ _ hB | refine po_cv (z_X0_init _ _ _ _ hB) (fun _ hB => ?_) | refine po_ck (fun hk => ?_) | refine po_ite ?_ ?_ | refine po_v (fun _ => ?_))
set_option maxRecDepth 100000 in
set_option maxHeartbeats 4000000 in
theorem z_X7_init (fu : Nat) (n : Nat) (th : Nat) (st : St) (hB : Big st) : Po (f_X7_init fu n th st) := by
  unfold f_X7_init
  repeat' (first | exact po_some hB | refine po_zr hB (fun _ hB => ?_) | refine po_R hB (fun _ hB => ?_) | refine po_f hB (by rw [hk]; decide) (fun _ hB => ?_) | refine po_a hB hk (by decide) (fun _ hB => ?_) | exact z_X7_init_31 _ _ _ _ _ _ _ hB | refine po_ck (fun hk => ?_) | refine po_ite ?_ ?_ | refine po_v (fun _ => ?_))
set_option maxRecDepth 100000 in
set_option maxHeartbeats 4000000 in
theorem z_X3_init (fu : Nat) (n : Nat) (th : Nat) (st : St) (hB : Big st) : Po (f_X3_init fu n th st) := by
  unfold f_X3_init
  repeat' (first | exact po_some hB | refine po_zr hB (fun _ hB => ?_) | refine po_R hB (fun _ hB => ?_) | refine po_f hB (by rw [hk]; decide) (fun _ hB => ?_) | refine po_a hB hk (by decide) (fun _ hB => ?_) | refine po_cv (z_X8_init _ _ _ _ hB) (fun _ hB => ?_) | refine po_ck (fun hk => ?_) | refine po_ite ?_ ?_ | refine po_v (fun _ => ?_))
set_option maxRecDepth 100000 in
set_option maxHeartbeats 4000000 in
theorem z_X1_init_71 (fu : Nat) (n : Nat) : ∀ (i : Nat) (m : Nat) (x0 : Nat) (x1 : Int32) (st : St), Big st → Po (b_X1_init_71 fu n i m x0 x1 st) := by
  intro i
  induction i with
  | zero => intro m x0 x1 st hB; exact po_none
  | succ i ih =>
    intro m x0 x1 st hB
    show Po (b_X1_init_71_b fu n (b_X1_init_71 fu n i) m x0 x1 st)
    unfold b_X1_init_71_b
    repeat' (first | exact po_some hB | refine po_zr hB (fun _ hB => ?_) | refine po_R hB (fun _ hB => ?_) | refine po_f hB (by rw [hk]; decide) (fun _ hB => ?_) | refine po_a hB hk (by decide) (fun _ hB => ?_) | exact ih _ _ _ _ hB | refine po_cv (z_X3_init _ _ _ _ hB) (fun _ hB => ?_) | refine po_cv (z_J7_fill_53178_n _ _ _ _ _ hB) (fun _ hB => ?_) | refine po_ck (fun hk => ?_) | refine po_ite ?_ ?_ | refine po_v (fun _ => ?_))
set_option maxRecDepth 100000 in
set_option maxHeartbeats 4000000 in
theorem z_X1_init (fu : Nat) (n : Nat) (th : Nat) (p1 : Nat) (st : St) (hB : Big st) : Po (f_X1_init fu n th p1 st) := by
  unfold f_X1_init
  repeat' (first | exact po_some hB | refine po_zr hB (fun _ hB => ?_) | refine po_R hB (fun _ hB => ?_) | refine po_f hB (by rw [hk]; decide) (fun _ hB => ?_) | refine po_a hB hk (by decide) (fun _ hB => ?_) | exact z_X1_init_71 _ _ _ _ _ _ _ hB | refine po_cv (z_X8_init _ _ _ _ hB) (fun _ hB => ?_) | refine po_ck (fun hk => ?_) | refine po_ite ?_ ?_ | refine po_v (fun _ => ?_))
set_option maxRecDepth 100000 in
set_option maxHeartbeats 4000000 in
theorem z_X4_init (fu : Nat) (n : Nat) (th : Nat) (st : St) (hB : Big st) : Po (f_X4_init fu n th st) := by
  unfold f_X4_init
  repeat' (first | exact po_some hB | refine po_zr hB (fun _ hB => ?_) | refine po_R hB (fun _ hB => ?_) | refine po_f hB (by rw [hk]; decide) (fun _ hB => ?_) | refine po_a hB hk (by decide) (fun _ hB => ?_) | refine po_ck (fun hk => ?_) | refine po_ite ?_ ?_ | refine po_v (fun _ => ?_))
set_option maxRecDepth 100000 in
set_option maxHeartbeats 4000000 in
theorem z_X6_init (fu : Nat) (n : Nat) (th : Nat) (st : St) (hB : Big st) : Po (f_X6_init fu n th st) := by
  unfold f_X6_init
  repeat' (first | exact po_some hB | refine po_zr hB (fun _ hB => ?_) | refine po_R hB (fun _ hB => ?_) | refine po_f hB (by rw [hk]; decide) (fun _ hB => ?_) | refine po_a hB hk (by decide) (fun _ hB => ?_) | refine po_ck (fun hk => ?_) | refine po_ite ?_ ?_ | refine po_v (fun _ => ?_))
set_option maxRecDepth 100000 in
set_option maxHeartbeats 4000000 in
theorem z_X2_init (fu : Nat) (n : Nat) (th : Nat) (p1 : Nat) (p2 : Nat) (st : St) (hB : Big st) : Po (f_X2_init fu n th p1 p2 st) := by
  unfold f_X2_init
  repeat' (first | exact po_some hB | refine po_zr hB (fun _ hB => ?_) | refine po_R hB (fun _ hB => ?_) | refine po_f hB (by rw [hk]; decide) (fun _ hB => ?_) | refine po_a hB hk (by decide) (fun _ hB => ?_) | refine po_ck (fun hk => ?_) | refine po_ite ?_ ?_ | refine po_v (fun _ => ?_))
set_option maxRecDepth 100000 in
set_option maxHeartbeats 4000000 in
theorem z_X5_init (fu : Nat) (n : Nat) (th : Nat) (st : St) (hB : Big st) : Po (f_X5_init fu n th st) := by
  unfold f_X5_init
  repeat' (first | exact po_some hB | refine po_zr hB (fun _ hB => ?_) | refine po_R hB (fun _ hB => ?_) | refine po_f hB (by rw [hk]; decide) (fun _ hB => ?_) | refine po_a hB hk (by decide) (fun _ hB => ?_) | refine po_ck (fun hk => ?_) | refine po_ite ?_ ?_ | refine po_v (fun _ => ?_))
set_option maxRecDepth 100000 in
set_option maxHeartbeats 4000000 in
theorem z_X10_init (fu : Nat) (n : Nat) (th : Nat) (st : St) (hB : Big st) : Po (f_X10_init fu n th st) := by
  unfold f_X10_init
  repeat' (first | exact po_some hB | refine po_zr hB (fun _ hB => ?_) | refine po_R hB (fun _ hB => ?_) | refine po_f hB (by rw [hk]; decide) (fun _ hB => ?_) | refine po_a hB hk (by decide) (fun _ hB => ?_) | refine po_ck (fun hk => ?_) | refine po_ite ?_ ?_ | refine po_v (fun _ => ?_))
set_option maxRecDepth 100000 in
set_option maxHeartbeats 4000000 in
theorem z_X11_init (fu : Nat) (n : Nat) (th : Nat) (st : St) (hB : Big st) : Po (f_X11_init fu n th st) := by
  unfold f_X11_init
  repeat' (first | exact po_some hB | refine po_zr hB (fun _ hB => ?_) | refine po_R hB (fun _ hB => ?_) | refine po_f hB (by rw [hk]; decide) (fun _ hB => ?_) | refine po_a hB hk (by decide) (fun _ hB => ?_) | refine po_cv (z_X9_init _ _ _ _ hB) (fun _ hB => ?_) | refine po_cv (z_X7_init _ _ _ _ hB) (fun _ hB => ?_) | refine po_cv (z_X1_init _ _ _ _ _ hB) (fun _ hB => ?_) | refine po_cv (z_X4_init _ _ _ _ hB) (fun _ hB => ?_) | refine po_cv (z_X6_init _ _ _ _ hB) (fun _ hB => ?_) | refine po_cv (z_X2_init _ _ _ _ _ _ hB) (fun _ hB => ?_) | refine po_cv (z_X5_init _ _ _ _ hB) (fun _ hB => ?_) | refine po_cv (z_X10_init _ _ _ _ hB) (fun _ hB => ?_) | refine po_ck (fun hk => ?_) | refine po_ite ?_ ?_ | refine po_v (fun _ => ?_))
set_option maxRecDepth 100000 in
set_option maxHeartbeats 4000000 in
theorem z_X12_fresh_32 (fu : Nat) : ∀ (i : Nat) (x0 : Nat) (x1 : Int32) (x2 : Int32) (st : St), Big st → Po (b_X12_fresh_32 fu i x0 x1 x2 st) := by
  intro i
  induction i with
  | zero => intro x0 x1 x2 st hB; exact po_none
  | succ i ih =>
    intro x0 x1 x2 st hB
    show Po (b_X12_fresh_32_b fu (b_X12_fresh_32 fu i) x0 x1 x2 st)
    unfold b_X12_fresh_32_b
    repeat' (first | exact po_some hB | refine po_zr hB (fun _ hB => ?_) | refine po_R hB (fun _ hB => ?_) | refine po_f hB (by rw [hk]; decide) (fun _ hB => ?_) | refine po_a hB hk (by decide) (fun _ hB => ?_) | exact ih _ _ _ _ hB | refine po_ck (fun hk => ?_) | refine po_ite ?_ ?_ | refine po_v (fun _ => ?_))
set_option maxRecDepth 100000 in
set_option maxHeartbeats 4000000 in
theorem z_X12_fresh (fu : Nat) (th : Nat) (p1 : Int32) (st : St) (hB : Big st) : Po (f_X12_fresh fu th p1 st) := by
  unfold f_X12_fresh
  repeat' (first | exact po_some hB | refine po_zr hB (fun _ hB => ?_) | refine po_R hB (fun _ hB => ?_) | refine po_f hB (by rw [hk]; decide) (fun _ hB => ?_) | refine po_a hB hk (by decide) (fun _ hB => ?_) | exact z_X12_fresh_32 _ _ _ _ _ _ hB | refine po_ck (fun hk => ?_) | refine po_ite ?_ ?_ | refine po_v (fun _ => ?_))
set_option maxRecDepth 100000 in
set_option maxHeartbeats 4000000 in
theorem z_X12_init_992 (fu : Nat) (n : Nat) : ∀ (i : Nat) (m : Nat) (x0 : Nat) (x1 : Int32) (st : St), Big st → Po (b_X12_init_992 fu n i m x0 x1 st) := by
  intro i
  induction i with
  | zero => intro m x0 x1 st hB; exact po_none
  | succ i ih =>
    intro m x0 x1 st hB
    show Po (b_X12_init_992_b fu n (b_X12_init_992 fu n i) m x0 x1 st)
    unfold b_X12_init_992_b
    repeat' (first | exact po_some hB | refine po_zr hB (fun _ hB => ?_) | refine po_R hB (fun _ hB => ?_) | refine po_f hB (by rw [hk]; decide) (fun _ hB => ?_) | refine po_a hB hk (by decide) (fun _ hB => ?_) | exact ih _ _ _ _ hB | refine po_ck (fun hk => ?_) | refine po_ite ?_ ?_ | refine po_v (fun _ => ?_))
set_option maxRecDepth 100000 in
set_option maxHeartbeats 4000000 in
theorem z_X12_init_971 (fu : Nat) (n : Nat) : ∀ (i : Nat) (m : Nat) (x0 : Nat) (x1 : Int32) (st : St), Big st → Po (b_X12_init_971 fu n i m x0 x1 st) := by
  intro i
  induction i with
  | zero => intro m x0 x1 st hB; exact po_none
  | succ i ih =>
    intro m x0 x1 st hB
    show Po (b_X12_init_971_b fu n (b_X12_init_971 fu n i) m x0 x1 st)
    unfold b_X12_init_971_b
    repeat' (first | exact po_some hB | refine po_zr hB (fun _ hB => ?_) | refine po_R hB (fun _ hB => ?_) | refine po_f hB (by rw [hk]; decide) (fun _ hB => ?_) | refine po_a hB hk (by decide) (fun _ hB => ?_) | exact ih _ _ _ _ hB | exact z_X12_init_992 _ _ _ _ _ _ _ hB | refine po_ck (fun hk => ?_) | refine po_ite ?_ ?_ | refine po_v (fun _ => ?_))
set_option maxRecDepth 100000 in
set_option maxHeartbeats 4000000 in
theorem z_X12_init_951 (fu : Nat) (n : Nat) : ∀ (i : Nat) (m : Nat) (x0 : Nat) (x1 : Int32) (st : St), Big st → Po (b_X12_init_951 fu n i m x0 x1 st) := by
  intro i
  induction i with
  | zero => intro m x0 x1 st hB; exact po_none
  | succ i ih =>
    intro m x0 x1 st hB
    show Po (b_X12_init_951_b fu n (b_X12_init_951 fu n i) m x0 x1 st)
    unfold b_X12_init_951_b
    repeat' (first | exact po_some hB | refine po_zr hB (fun _ hB => ?_) | refine po_R hB (fun _ hB => ?_) | refine po_f hB (by rw [hk]; decide) (fun _ hB => ?_) | refine po_a hB hk (by decide) (fun _ hB => ?_) | exact ih _ _ _ _ hB | exact z_X12_init_971 _ _ _ _ _ _ _ hB | refine po_ck (fun hk => ?_) | refine po_ite ?_ ?_ | refine po_v (fun _ => ?_))
set_option maxRecDepth 100000 in
set_option maxHeartbeats 4000000 in
theorem z_X12_init_923 (fu : Nat) (n : Nat) : ∀ (i : Nat) (m : Nat) (x0 : Nat) (x1 : Int32) (st : St), Big st → Po (b_X12_init_923 fu n i m x0 x1 st) := by
  intro i
  induction i with
  | zero => intro m x0 x1 st hB; exact po_none
  | succ i ih =>
    intro m x0 x1 st hB
    show Po (b_X12_init_923_b fu n (b_X12_init_923 fu n i) m x0 x1 st)
    unfold b_X12_init_923_b
    repeat' (first | exact po_some hB | refine po_zr hB (fun _ hB => ?_) | refine po_R hB (fun _ hB => ?_) | refine po_f hB (by rw [hk]; decide) (fun _ hB => ?_) | refine po_a hB hk (by decide) (fun _ hB => ?_) | exact ih _ _ _ _ hB | exact z_X12_init_951 _ _ _ _ _ _ _ hB | refine po_ck (fun hk => ?_) | refine po_ite ?_ ?_ | refine po_v (fun _ => ?_))
set_option maxRecDepth 100000 in
set_option maxHeartbeats 4000000 in
theorem z_X12_init_905 (fu : Nat) (n : Nat) : ∀ (i : Nat) (m : Nat) (x0 : Nat) (x1 : Int32) (st : St), Big st → Po (b_X12_init_905 fu n i m x0 x1 st) := by
  intro i
  induction i with
  | zero => intro m x0 x1 st hB; exact po_none
  | succ i ih =>
    intro m x0 x1 st hB
    show Po (b_X12_init_905_b fu n (b_X12_init_905 fu n i) m x0 x1 st)
    unfold b_X12_init_905_b
    repeat' (first | exact po_some hB | refine po_zr hB (fun _ hB => ?_) | refine po_R hB (fun _ hB => ?_) | refine po_f hB (by rw [hk]; decide) (fun _ hB => ?_) | refine po_a hB hk (by decide) (fun _ hB => ?_) | exact ih _ _ _ _ hB | exact z_X12_init_923 _ _ _ _ _ _ _ hB | refine po_cv (z_X12_fresh _ _ _ _ hB) (fun _ hB => ?_) | refine po_ck (fun hk => ?_) | refine po_ite ?_ ?_ | refine po_v (fun _ => ?_))
set_option maxRecDepth 100000 in
set_option maxHeartbeats 4000000 in
theorem z_X12_init (fu n th : Nat) (st : St) (hB : Big st) : Po (f_X12_init fu n th st) := by
  unfold f_X12_init
  iterate 108 (with_reducible refine po_blk hB (fun _ hB => ?_))
  exact z_X12_init_905 _ _ _ _ _ _ _ hB
