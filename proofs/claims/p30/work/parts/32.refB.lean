/-! ## the reference's methods: who catches -/
def s28 (R : Int → Int) (c p f : Int) : Int → Int := fun i => if i = 28 then c else if i = 29 then p else if i = 30 then f else R i
theorem s28_a (R : Int → Int) (c p f x : Int) : ui (s28 R c p f) 28 x = s28 R x p f := by
  funext j; unfold ui s28; (repeat' split) <;> first | rfl | omega
theorem s28_b (R : Int → Int) (c p f x : Int) : ui (s28 R c p f) 29 x = s28 R c x f := by
  funext j; unfold ui s28; (repeat' split) <;> first | rfl | omega
theorem s28_c (R : Int → Int) (c p f x : Int) : ui (s28 R c p f) 30 x = s28 R c p x := by
  funext j; unfold ui s28; (repeat' split) <;> first | rfl | omega
theorem s28_0 (R : Int → Int) (c p f : Int) : ui (ui (ui R 28 c) 29 p) 30 f = s28 R c p f := by
  funext j; unfold ui s28; (repeat' split) <;> first | rfl | omega
theorem s28_u (R : Int → Int) (c p f c' p' f' : Int) : s28 (s28 R c p f) c' p' f' = s28 R c' p' f' := by
  funext j; unfold s28; (repeat' split) <;> rfl
section RB
variable {S : (Nat → Int32) × Nat} {t : qT} {D : qD} {Q : Int → qT → qD → Prop}
theorem sAt_r {nf : Int} {N : Int → Int} (h : RVd nf N) {n : Int} (h0 : 0 ≤ n) (h1 : n < N 13) : (14 ≤ sAt N n ∧ sAt N n + 7 < 78) ∧ (0 ≤ N (sAt N n) ∧ N (sAt N n) < nf) ∧ 0 ≤ N (sAt N n + 1) ∧ N (sAt N n + 1) ≤ 9 := by
  have h2 := h.1
  have h3 := h.2.1 (N 13 - 1 - n) (by omega) (by omega)
  unfold sAt
  refine ⟨by omega, ⟨h3.1, h3.2.1⟩, h3.2.2⟩
theorem sLp_r (pm pd N : Int → Int) (n ty : Int) : ∀ (k : Nat) (p fin : Int), p + k ≤ 3 → 0 ≤ p → 0 ≤ fin → ((sLp pm pd N n ty k p fin).1 = -1 ∨ (p ≤ (sLp pm pd N n ty k p fin).1 ∧ (sLp pm pd N n ty k p fin).1 < 3 ∧ (sLp pm pd N n ty k p fin).1 < pm (N (sAt N n)))) ∧ fin ≤ (sLp pm pd N n ty k p fin).2 ∧ (sLp pm pd N n ty k p fin).2 ≤ fin + k := by
  intro k
  induction k with
  | zero => intro p fin _ _ _; exact ⟨.inl rfl, Int.le_refl _, by show fin ≤ fin + (0 : Nat); omega⟩
  | succ k ih =>
    intro p fin h1 h2 h3
    unfold sLp
    split
    · rename_i h
      split
      · exact ⟨.inr ⟨Int.le_refl _, by show p < 3; omega, h⟩, Int.le_refl _, by show fin ≤ fin + _; omega⟩
      · split
        · have := ih (p + 1) (fin + 1) (by omega) (by omega) (by omega)
          omega
        · have := ih (p + 1) fin (by omega) (by omega) (by omega)
          omega
    · exact ⟨.inl rfl, Int.le_refl _, by show fin ≤ fin + _; omega⟩
theorem sLc_r (pm pd N : Int → Int) (ty : Int) : ∀ (k : Nat) (n fin : Int), n + k ≤ 8 → 0 ≤ n → 0 ≤ fin → (((sLc pm pd N ty k n fin).1 = -1 ∧ (sLc pm pd N ty k n fin).2.1 = -1) ∨ (n ≤ (sLc pm pd N ty k n fin).1 ∧ (sLc pm pd N ty k n fin).1 < N 13 ∧ 0 ≤ (sLc pm pd N ty k n fin).2.1 ∧ (sLc pm pd N ty k n fin).2.1 < 3 ∧ (sLc pm pd N ty k n fin).2.1 < pm (N (sAt N (sLc pm pd N ty k n fin).1)))) ∧ fin ≤ (sLc pm pd N ty k n fin).2.2 ∧ (sLc pm pd N ty k n fin).2.2 ≤ fin + 3 * k := by
  intro k
  induction k with
  | zero => intro n fin _ _ _; exact ⟨.inl ⟨rfl, rfl⟩, Int.le_refl _, by show fin ≤ fin + 3 * (0 : Nat); omega⟩
  | succ k ih =>
    intro n fin h1 h2 h3
    unfold sLc
    have hp := sLp_r pm pd N n ty 3 0 fin (by omega) (by omega) h3
    split
    · rename_i h
      split
      · have := ih (n + 1) _ (by omega) (by omega) (Int.le_trans h3 hp.2.1)
        omega
      · rename_i h5
        refine ⟨.inr ⟨Int.le_refl _, h, ?_, ?_, ?_⟩, ?_, ?_⟩ <;> dsimp only <;> omega
    · exact ⟨.inl ⟨rfl, rfl⟩, Int.le_refl _, by show fin ≤ fin + _; omega⟩
theorem sCat_r (pm pd N : Int → Int) (ty : Int) : (((sCat pm pd N ty).1 = -1 ∧ (sCat pm pd N ty).2.1 = -1) ∨ (0 ≤ (sCat pm pd N ty).1 ∧ (sCat pm pd N ty).1 < N 13 ∧ 0 ≤ (sCat pm pd N ty).2.1 ∧ (sCat pm pd N ty).2.1 < 3 ∧ (sCat pm pd N ty).2.1 < pm (N (sAt N (sCat pm pd N ty).1)))) ∧ 0 ≤ (sCat pm pd N ty).2.2 ∧ (sCat pm pd N ty).2.2 ≤ 24 := by
  have := sLc_r pm pd N ty 8 0 0 (by omega) (by omega) (by omega)
  unfold sCat
  omega
end RB
