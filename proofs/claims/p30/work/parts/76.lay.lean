/-! ## the laying of a function's rows: what the ops say, and the reference's laying -/
def oSt (op : Int → Int) (x : Int) (s : (Int → Int) × Int) : (Int → Int) × Int :=
  if op x = 98 then (fun i => if 0 ≤ i ∧ i < 4 then s.1 (4 * s.2 + i) else if 4 * s.2 ≤ i ∧ i < 4 * s.2 + 4 then -1 else s.1 i, s.2 - 1)
  else if op x = 109 then (fun i => if 4 * (s.2 + 1) ≤ i ∧ i < 4 * (s.2 + 1) + 4 then s.1 (i - 4 * (s.2 + 1)) else s.1 i, s.2 + 1)
  else if op x = 115 then (ui s.1 (op (x + 1)) (op (x + 2)), s.2) else if op x = 117 then (ui s.1 (op (x + 1)) (-1), s.2) else s
def sR (op : Int → Int) (f : Int) : Nat → (Int → Int) × Int
  | 0 => (fun _ => -1, 0)
  | n + 1 => oSt op (24 * f + 3 * n) (sR op f n)
def cA (op : Int → Int) (f : Int) : Nat → Int
  | 0 => 0
  | n + 1 => if op (24 * f + 3 * n) = 43 then cA op f n else adN op f n
def ROWX (op : Int → Int) (f : Int) (M : Nat) (a : Int) (X : Int → Int) (y z : Int) : Prop := ∃ n : Nat, n ≤ M ∧ adN op f n ≤ a ∧ (n = M ∨ (op (24 * f + 3 * n) = 43 ∧ a < adN op f (n + 1))) ∧ (∀ w, 0 ≤ w → w < 4 → X w = (sR op f n).1 w) ∧ y = (sR op f n).2 ∧ z = cA op f n
def OV (op : Int → Int) (f : Int) (M : Nat) : Prop := (0 ≤ f ∧ f < 3) ∧ M ≤ 8 ∧ ∀ j : Nat, j < M → opV op (24 * f + 3 * j) ∧ adN op f (j + 1) ≤ 9 ∧ 0 ≤ dN op f (j + 1) ∧ dN op f (j + 1) ≤ 3
theorem sR_d {op : Int → Int} {f : Int} : ∀ n, (sR op f n).2 = dN op f n := by
  intro n
  induction n with
  | zero => rfl
  | succ n ih =>
    unfold sR dN oSt
    rw [← ih]
    by_cases h1 : op (24 * f + 3 * n) = 98
    · rw [if_pos h1, if_neg (by omega), if_pos h1]; rfl
    · rw [if_neg h1]
      by_cases h2 : op (24 * f + 3 * n) = 109
      · rw [if_pos h2, if_pos h2]
      · rw [if_neg h2, if_neg h2, if_neg h1, Int.add_zero]
        by_cases h3 : op (24 * f + 3 * n) = 115
        · rw [if_pos h3]
        · rw [if_neg h3]
          by_cases h4 : op (24 * f + 3 * n) = 117
          · rw [if_pos h4]
          · rw [if_neg h4]
theorem OV.d {op : Int → Int} {f : Int} {M : Nat} (h : OV op f M) : ∀ n, n ≤ M → (0 ≤ (sR op f n).2 ∧ (sR op f n).2 ≤ 3) ∧ 0 ≤ adN op f n ∧ adN op f n ≤ 9 := by
  intro n
  induction n with
  | zero => intro _; exact ⟨⟨Int.le_refl _, show (0 : Int) ≤ 3 by decide⟩, Int.le_refl _, show (0 : Int) ≤ 9 by decide⟩
  | succ n ih =>
    intro hn
    have h1 := h.2.2 n (by omega)
    have h2 := ih (by omega)
    rw [sR_d]
    refine ⟨h1.2.2, ?_, h1.2.1⟩
    have hv := h1.1
    unfold opV at hv
    unfold adN
    split <;> omega
theorem adN_m {op : Int → Int} {f : Int} {M : Nat} (h : OV op f M) : ∀ m n, n ≤ m → m ≤ M → adN op f n ≤ adN op f m := by
  intro m
  induction m with
  | zero => intro n h1 _; obtain rfl : n = 0 := by omega
            exact Int.le_refl _
  | succ m ih =>
    intro n h1 h2
    by_cases c : n = m + 1
    · rw [c]; exact Int.le_refl _
    · have := ih n (by omega) (by omega)
      have hv := (h.2.2 m (by omega)).1
      unfold opV at hv
      have e : adN op f (m + 1) = adN op f m + if op (24 * f + 3 * m) = 43 then op (24 * f + 3 * m + 1) else 0 := rfl
      rw [e]
      split <;> omega
/-- the row of an address is one -/
theorem ROWX.uni {op : Int → Int} {f a y z y' z' : Int} {M : Nat} {X X' : Int → Int} (hV : OV op f M) (h : ROWX op f M a X y z) (h' : ROWX op f M a X' y' z') : (∀ w, 0 ≤ w → w < 4 → X w = X' w) ∧ y = y' ∧ z = z' := by
  obtain ⟨n, a1, a2, a3, a4, a5, a6⟩ := h
  obtain ⟨m, b1, b2, b3, b4, b5, b6⟩ := h'
  have e : n = m := by
    by_cases c : n < m
    · have := adN_m hV m (n + 1) (by omega) b1
      omega
    · by_cases c2 : m < n
      · have := adN_m hV n (m + 1) (by omega) a1
        omega
      · omega
  subst e
  exact ⟨fun w x y => (a4 w x y).trans (b4 w x y).symm, a5.trans b5.symm, a6.trans b6.symm⟩
section RS
variable {S : (Nat → Int32) × Nat} {t : qT} {D : qD} {Q : Int → qT → qD → Prop} {f : Int} {M : Nat}
def STn (op : Int → Int) (f : Int) (E : qD) (n : Nat) : Prop := (∀ i, 0 ≤ i → i < 16 → E 41 i = (sR op f n).1 i) ∧ E 28 24 = (sR op f n).2
def F41 (E E' : qD) : Prop := (∀ b, b ≠ 28 → b ≠ 41 → E' b = E b) ∧ ∀ i, i ≠ 24 → E' 28 i = E 28 i
end RS
