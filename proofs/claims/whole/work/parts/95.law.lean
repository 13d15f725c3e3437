/-! ## every script: the law returns 1 -/
theorem IV_0 : IV 0 t0 D0 := ⟨⟨16, XJ_0⟩, RVs_0, by rw [D0_y (by decide)]; exact Int.le_refl _, Nat.le_refl _, Nat.le_refl _⟩
theorem eH_h0 : eH [] 0 = pz_h0 := by
  unfold eH pz_h0
  refine congr (congrArg Prod.mk (funext fun a => ?_)) rfl
  rw [List.getElem?_nil]; rfl
set_option maxRecDepth 100000 in
theorem pz_law (S : (Nat → Int32) × Nat) (hS : S.2 ≤ 2560) : ∃ n h', pz_run S n 188 0 (pz_in 4 [.retAddr 0]) [] pz_h0 = some (some (.int 1), h') ∧ h'.2.1 ≤ 600000 ∧ h'.2.2 ≤ 7302250 := by
  have hw : wp S 188 18 [some qx, some (qs 0), some (qs 28), some (qi 0)] [] t0 D0 (fun x t' _ => x = 1 ∧ t'.2.2.1 ≤ 13000 ∧ t'.2.2.2 ≤ 320000) :=
    law_loop hS (fun t' D' a b => ⟨rfl, a, b⟩) (S.2 / 5) 0 0 0 t0 D0 rfl (by omega) (Nat.le_refl _) IV_0
  obtain ⟨N, x, t', D', h1, -, -, rfl, h3, h4⟩ := hw qSt_0
  have h1' : pz_run S N 188 18 L0 [] (eH ((List.range 49).map litC) 8201) = some (some (.int 1), qH t' D') := by rw [eH_0]; exact h1
  obtain ⟨N', h⟩ := e_to_ok S 188 18 400 0 _ [] [] 0 _ e_first N _ h1'
  rw [eH_h0] at h
  exact ⟨N', qH t' D', h, Nat.le_trans h3 (by decide), Nat.le_trans h4 (by decide)⟩
