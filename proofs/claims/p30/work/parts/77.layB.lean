section RT
variable {S : (Nat → Int32) × Nat} {t : qT} {D : qD} {Q : Int → qT → qD → Prop} {f : Int} {M : Nat}
/-- what laying a function leaves alone -/
def FRM (f : Int) (D E : qD) : Prop := (∀ b, b ≠ 28 → b ≠ 34 → b ≠ 35 → b ≠ 36 → b ≠ 41 → E b = D b) ∧ (∀ i, i ≠ 24 → E 28 i = D 28 i) ∧ (∀ i, ¬ (40 * f ≤ i ∧ i < 40 * f + 40) → E 34 i = D 34 i) ∧ (∀ i, ¬ (10 * f ≤ i ∧ i < 10 * f + 10) → E 35 i = D 35 i ∧ E 36 i = D 36 i)
def DNE (op : Int → Int) (f : Int) (M : Nat) (E : qD) (a : Int) : Prop := ∀ x, 0 ≤ x → x < a → ROWX op f M x (fun w => E 34 (40 * f + 4 * x + w)) (E 35 (10 * f + x)) (E 36 (10 * f + x))
theorem FRM.f41 {D E E' : qD} (h : FRM f D E) (k : F41 E E') : FRM f D E' := by
  obtain ⟨h1, h2, h3, h4⟩ := h
  obtain ⟨k1, k2⟩ := k
  refine ⟨fun b x1 x2 x3 x4 x5 => by rw [k1 b x1 x5]; exact h1 b x1 x2 x3 x4 x5, fun i hi => by rw [k2 i hi]; exact h2 i hi, fun i hi => by rw [k1 34 (by decide) (by decide)]; exact h3 i hi, fun i hi => ?_⟩
  rw [k1 35 (by decide) (by decide), k1 36 (by decide) (by decide)]; exact h4 i hi
theorem DNE.f41 {op : Int → Int} {a : Int} {E E' : qD} (h : DNE op f M E a) (k : F41 E E') : DNE op f M E' a := by
  intro x h1 h2
  have := h x h1 h2
  rw [k.1 34 (by decide) (by decide), k.1 35 (by decide) (by decide), k.1 36 (by decide) (by decide)]
  exact this
end RT
