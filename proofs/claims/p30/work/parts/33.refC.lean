/-! ## the reference's methods: what is done to the row -/
section RC
variable {S : (Nat → Int32) × Nat} {t : qT} {D : qD} {Q : Int → qT → qD → Prop}
theorem sAt_ui {N : Int → Int} {i x n : Int} (h : i ≠ 13) : sAt (ui N i x) n = sAt N n := by unfold sAt; rw [ui_n (fun q => h q.symm)]
theorem sAt_cpf {N g : Int → Int} {lo hi n : Int} (h : ¬ (lo ≤ 13 ∧ 13 < hi)) : sAt (cpf N g lo hi) n = sAt N n := by unfold sAt; rw [cpf_n h]
theorem RVd.fin {nf x : Int} {N : Int → Int} (h : RVd nf N) (h2 : N 78 < 24) (hx : qR x) : RVd nf (ui (ui N (79 + N 78) x) 78 (N 78 + 1)) := by
  obtain ⟨h1, h3, h4, h5, h6⟩ := h
  refine ⟨?_, fun l a b => ?_, fun k a b => ?_, ?_, fun k a b => ?_⟩
  · rw [ui_n (by decide), ui_n (by omega)]; exact h1
  · rw [ui_n (by decide), ui_n (by omega)] at b
    rw [ui_n (by omega), ui_n (by omega), ui_n (by omega), ui_n (by omega)]; exact h3 l a b
  · rw [ui_n (by omega), ui_n (by omega)]; exact h4 k a b
  · rw [ui_s]; omega
  · unfold ui
    split
    · omega
    · split
      · exact hx
      · exact h6 k a b
end RC
