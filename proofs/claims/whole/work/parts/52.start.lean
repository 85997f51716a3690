/-! THE START: what the Statement gives of the machine, as the context of the law's walk -/
def sA : List (String × Nat) := [("StageHouse$Tape", 57), ("StageHouse$Script", 75), ("StageHouse$Script", 113), ("StageHouse$Script", 115), ("StageHouse$Script", 117), ("StageHouse$Script", 119), ("StageHouse$Script", 121), ("StageHouse$Script", 123), ("StageHouse$Script", 155), ("StageHouse$Script", 157), ("StageHouse$Script", 159), ("StageHouse$Script", 161), ("StageHouse$Script", 163), ("StageHouse$Script", 165), ("StageHouse$Script", 146), ("StageHouse$Script", 153), ("StageHouse$Rig", 138), ("StageHouse$Rig", 140), ("StageHouse$Prices", 49), ("StageHouse$Prices", 55), ("StageHouse$Prices", 56), ("StageHouse$Prices", 58), ("StageHouse$Parties", 84), ("StageHouse$Parties", 90)]
def tmS (i : Nat) : Term := Term.string (sA.getD i ("", 0)).1 (sA.getD i ("", 0)).2
def FN : List Cond := flatC (Jvm.Cond.and given_1 narrow_1)
def cS (i : Nat) : List Cond := [Cond.exactly (tmS i) "java/lang/String", Cond.eq (.field (tmS i) "java/lang/String" "coder" "B") (.int 0), Cond.arrayOf (.field (tmS i) "java/lang/String" "value" "[B") .byte, Cond.eq (.length (.field (tmS i) "java/lang/String" "value" "[B")) (.int (Int32.ofNat (sB.getD i []).length))] ++ (List.range (sB.getD i []).length).map (fun j => Cond.eq (.elem (.field (tmS i) "java/lang/String" "value" "[B") (.int (Int32.ofNat j))) (.int ((sB.getD i []).getD j 0)))
theorem cS_in : (List.range sB.length).all (fun i => (cS i).all (fun w => decide (w ∈ FN))) = true := by decide +kernel
theorem sT_in : sT.all (fun q => decide (q.2.2.2 < sB.length) && decide (Cond.stringRef q.1 q.2.1 q.2.2.1 ∈ tables_1) && (decide ((q.1, q.2.1) = sA.getD q.2.2.2 ("", 0)) || decide (Cond.eq (tmS q.2.2.2) (Term.string q.1 q.2.1) ∈ FN))) = true := by decide +kernel
theorem str_of {args : Array Value} {s : State} {A : Nat → Prop} (hf : ∀ w ∈ FN, w.before args s = true) (hA : ∀ a : Nat, a < s.heap.size → ¬ A a) (i : Nat) (hi : i < sB.length) : ∃ q : Nat × Nat, (tmS i).eval args s none [] s = some (.ref q.1) ∧ va_O "java/lang/String" q.1 A s s.heap ∧ va_OF "java/lang/String" "coder" "B" (.int 0) q.1 A s s.heap ∧ va_OF "java/lang/String" "value" "[B" (.ref q.2) q.1 A s s.heap ∧ va_T .byte q.2 (sB.getD i []).length (fun j => .int ((sB.getD i []).getD j 0)) A s s.heap := by
  have h0 := List.all_eq_true.mp cS_in i (List.mem_range.mpr hi)
  have h1 : ∀ w ∈ cS i, w.before args s = true := fun w hw => hf w (of_decide_eq_true (List.all_eq_true.mp h0 w hw))
  have hlen : (sB.getD i []).length < 2 ^ 31 := by
    have : ∀ i, i < sB.length → (sB.getD i []).length < 100 := by decide +kernel
    exact Nat.lt_trans (this i hi) (by decide)
  obtain ⟨adK, adV, hS, hE⟩ := vk_Sof (args := args) (s := s) (N := 1) (tm := fun _ => tmS i) (len := [(sB.getD i []).length]) (byt := [sB.getD i []]) (A := A)
    (fun j hj => by rw [show j = 0 by omega]; exact hlen)
    (fun _ _ => h1 _ (by simp [cS])) (fun _ _ => h1 _ (by simp [cS])) (fun _ _ => h1 _ (by simp [cS])) (fun j hj => by rw [show j = 0 by omega]; exact h1 _ (by simp [cS]))
    (fun j hj k hk => by
      rw [show j = 0 by omega] at hk ⊢
      have hk2 : k < (sB.getD i []).length := hk
      refine h1 _ (List.mem_append_right _ (List.mem_map.mpr ⟨k, List.mem_range.mpr hk2, rfl⟩)))
    (fun a b ha hb hab => absurd (show a = b by omega) hab) hA
  exact ⟨(adK 0, adV 0), hE 0 (by omega), (hS.1 0 (by omega)).1, (hS.1 0 (by omega)).2.1, (hS.1 0 (by omega)).2.2.1, (hS.1 0 (by omega)).2.2.2⟩
theorem sf_of {args : Array Value} {s : State} {b : Nat} (hts : ∀ w ∈ tables_1, w.before args s = true) (hf : ∀ w ∈ FN, w.before args s = true) (hb : s.heap.size = b + 1) : ∃ K, SF K b s s.heap := by
  have hA : ∀ a : Nat, a < s.heap.size → ¬ (fun q => b < q) a := fun a h1 h2 => by rw [hb] at h1; exact absurd h2 (by show ¬ b < a; omega)
  have h0 : ∀ i : Nat, ∃ q : Nat × Nat, i < sB.length → (tmS i).eval args s none [] s = some (.ref q.1) ∧ va_O "java/lang/String" q.1 (fun q => b < q) s s.heap ∧ va_OF "java/lang/String" "coder" "B" (.int 0) q.1 (fun q => b < q) s s.heap ∧ va_OF "java/lang/String" "value" "[B" (.ref q.2) q.1 (fun q => b < q) s s.heap ∧ va_T .byte q.2 (sB.getD i []).length (fun j => .int ((sB.getD i []).getD j 0)) (fun q => b < q) s s.heap := by
    intro i
    by_cases hi : i < sB.length
    · obtain ⟨q, h⟩ := str_of hf hA i hi
      exact ⟨q, fun _ => h⟩
    · exact ⟨(0, 0), fun h => absurd h hi⟩
  obtain ⟨ad, had⟩ := Classical.axiomOfChoice h0
  have hcs := va_Zof (A := fun q => b < q) (hts (Cond.laysStatic "java/lang/String" "COMPACT_STRINGS" "Z") (by decide +kernel)) (hts (Cond.initialized "java/lang/String") (by decide +kernel)) (va_eqi (z := 1) (hf _ (by decide +kernel))) hA
  obtain ⟨v, hv, hvr⟩ := Cond.isRef_spec (hf (Cond.isRef (.static "jdk/internal/util/Preconditions" "SIOOBE_FORMATTER" "Ljava/util/function/BiFunction;")) (by decide +kernel))
  have hfm := va_Zof (A := fun q => b < q) (hts (Cond.laysStatic "jdk/internal/util/Preconditions" "SIOOBE_FORMATTER" "Ljava/util/function/BiFunction;") (by decide +kernel)) (hts (Cond.initialized "jdk/internal/util/Preconditions") (by decide +kernel)) hv hA
  have hx : ∃ z : Nat, v = va_rf (if z = 0 then none else some (z - 1)) := by
    cases v with
    | null => exact ⟨0, rfl⟩
    | ref a => exact ⟨a + 1, rfl⟩
    | _ => exact absurd hvr (by simp [Value.isRef])
  obtain ⟨z, rfl⟩ := hx
  have h999 : ¬ (999 : Nat) < sB.length := by decide +kernel
  refine ⟨(fun i => (ad i).1, fun i => if i = 999 then z else (ad i).2), hcs, fun i hi => ?_, fun q hq => ?_, ?_⟩
  · have hne : i ≠ 999 := fun e => h999 (e ▸ hi)
    obtain ⟨-, h2, h3, h4, h5⟩ := had i hi
    have e2 : (if i = 999 then z else (ad i).2) = (ad i).2 := if_neg hne
    show va_O _ (ad i).1 _ _ _ ∧ va_OF _ _ _ _ (ad i).1 _ _ _ ∧ va_OF _ _ _ (.ref (if i = 999 then z else (ad i).2)) (ad i).1 _ _ _ ∧ va_T _ (if i = 999 then z else (ad i).2) _ _ _ _ _
    rw [e2]
    exact ⟨h2, h3, h4, h5⟩
  · have hq2 := List.all_eq_true.mp sT_in q hq
    simp only [Bool.and_eq_true, Bool.or_eq_true, decide_eq_true_eq] at hq2
    obtain ⟨⟨g1, g2⟩, g3⟩ := hq2
    have hev := (had q.2.2.2 g1).1
    refine vk_R.of (A := args) (hts _ g2) ?_
    rcases g3 with g3 | g3
    · have e3 : tmS q.2.2.2 = Term.string q.1 q.2.1 := by unfold tmS; rw [← g3]
      rw [← e3]; exact hev
    · exact va_eqR (hf _ g3) hev
  · have e9 : (if (999 : Nat) = 999 then z else (ad 999).2) = z := if_pos rfl
    show va_Z _ _ _ (va_rf (if (if (999 : Nat) = 999 then z else (ad 999).2) = 0 then none else some ((if (999 : Nat) = 999 then z else (ad 999).2) - 1))) _ _ _
    rw [e9]
    exact hfm
