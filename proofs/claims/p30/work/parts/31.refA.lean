/-! ## the reference's methods: reads -/
section RA
variable {S : (Nat → Int32) × Nat} {t : qT} {D : qD} {Q : Int → qT → qD → Prop}
theorem sDoes_r (k o ty : Int) : 0 ≤ sDoes k o ty ∧ sDoes k o ty ≤ 2 := by
  unfold sDoes
  (repeat' split) <;> omega
theorem sDA_r (pd N : Int → Int) (f p adr ty : Int) : 0 ≤ sDA pd N f p adr ty ∧ sDA pd N f p adr ty ≤ 2 := by
  unfold sDA
  split
  · exact sDoes_r _ _ _
  · omega
end RA
