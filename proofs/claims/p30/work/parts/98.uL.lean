/-! ## the claim's run -/
set_option maxRecDepth 100000 in
theorem pz_law (S : (Nat → Int32) × Nat) (hS : S.2 ≤ 260) : ∃ n h', pz_run S n 116 0 (pz_in 12 [.retAddr 0]) [] pz_h0 = some (some (.int 1), h') ∧ h'.2.1 ≤ 600000 ∧ h'.2.2 ≤ 7302250 := by
  obtain ⟨N, x, t', D', h1, -, -, rfl, h3, h4⟩ := law_42 S hS qSt_0
  have h1' : pz_run S N 116 42 L0 [] (eH ((List.range 34).map litC) 830) = some (some (.int 1), qH t' D') := by rw [eH_0]; exact h1
  obtain ⟨N', h⟩ := e_to_ok S 116 42 400 0 _ [] [] 0 _ e_first N _ h1'
  rw [eH_h0] at h
  exact ⟨N', qH t' D', h, Nat.le_trans h3 (by decide), Nat.le_trans h4 (by decide)⟩
