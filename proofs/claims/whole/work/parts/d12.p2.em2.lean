/-! PURE: empty, both sides -/
set_option maxRecDepth 100000 in
theorem empty_b {fu : Nat} (hf : 9000 ≤ fu) (st : St) (hT : Top st) (hY : P_ways st) : ∃ r u w, f_X11_empty fu 1 st = some (r, u) ∧ f_X12_empty fu 153 u = some (r, w) ∧ Fr (W_sd ++ W_re) st w := by
  have hY2 := hY
  obtain ⟨n, h1, ok, hL, hS, hC, hc⟩ := ways_G hY
  obtain ⟨-, -, -, -, e0, e1, e2, e3, e4, -⟩ := hY2
  obtain ⟨r, u, a1, a2, a3⟩ := empty_c hf hT ok hL hS hC hc
  have hT1 : Top u := hT.fr (a2.same (by decide))
  have hW : RW (gN st n) u := by
    refine ⟨?_, fun w hw => ?_⟩
    · rw [a2.ki 153 113 (by decide)]; exact h1
    · rw [a2.fi 250 (by decide), a2.fi 251 (by decide), a2.fi 252 (by decide), a2.fi 253 (by decide), ← e0, ← e1, ← e2, ← e3]
      exact hC.2.1 w hw
  obtain ⟨r', w, b1, b2, b3⟩ := empty_r ok hf (fun v hv => (hc v hv).2) hT1 hW (fun v hv => by
    rw [a2.fi 254 (by decide), ← e4]; exact (hc v hv).1)
  have e := a1.one b1
  subst e
  exact ⟨r, u, w, a3, b3, a2.tr b2⟩
