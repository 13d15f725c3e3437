/-! ## words for the rows: what each thing does, over numbers -/
def ui (f : Int → Int) (i x : Int) : Int → Int := fun j => if j = i then x else f j
theorem up_eq (D : qD) (a : Nat) (i x : Int) : up D a i x = upr D a (ui (D a) i x) := by
  funext b j
  unfold up upr ui
  by_cases h : b = a
  · subst h
    by_cases h2 : j = i
    · rw [if_pos ⟨rfl, h2⟩, if_pos rfl, if_pos h2]
    · rw [if_neg (fun q => h2 q.2), if_pos rfl, if_neg h2]
  · rw [if_neg (fun q => h q.1), if_neg h]
theorem upr_n {D : qD} {a b : Nat} {f : Int → Int} (h : b ≠ a) : upr D a f b = D b := if_neg h
theorem upr_b {D : qD} {a b : Nat} {f : Int → Int} (h : (b == a) = false) : upr D a f b = D b := if_neg (fun q => by rw [q] at h; simp at h)
theorem upr_u (D : qD) (a : Nat) (f g : Int → Int) : upr (upr D a f) a g = upr D a g := by
  funext b
  unfold upr
  by_cases h : b = a
  · rw [if_pos h, if_pos h]
  · rw [if_neg h, if_neg h, if_neg h]
theorem upr_id (D : qD) (a : Nat) : upr D a (D a) = D := by
  funext b
  unfold upr
  by_cases h : b = a
  · rw [if_pos h, h]
  · rw [if_neg h]
theorem upr_c {D : qD} {a b : Nat} {f g : Int → Int} (h : a ≠ b) : upr (upr D a f) b g = upr (upr D b g) a f := by
  funext c
  unfold upr
  by_cases h1 : c = a
  · subst h1
    rw [if_neg h, if_pos rfl, if_pos rfl]
  · by_cases h2 : c = b
    · rw [if_pos h2, if_neg h1, if_pos h2]
    · rw [if_neg h2, if_neg h1, if_neg h1, if_neg h2]
theorem ui_s {f : Int → Int} {i x : Int} : ui f i x i = x := if_pos rfl
theorem ui_n {f : Int → Int} {i x j : Int} (h : j ≠ i) : ui f i x j = f j := if_neg h
theorem ui_ap (f : Int → Int) (i x j : Int) : ui f i x j = if j = i then x else f j := rfl
theorem ui_u (f : Int → Int) (i x y : Int) : ui (ui f i x) i y = ui f i y := by
  funext j
  unfold ui
  by_cases h : j = i
  · rw [if_pos h, if_pos h]
  · rw [if_neg h, if_neg h, if_neg h]
theorem ui_id (f : Int → Int) (i : Int) : ui f i (f i) = f := by
  funext j
  unfold ui
  by_cases h : j = i
  · rw [if_pos h, h]
  · rw [if_neg h]
theorem ite_i {c : Prop} [Decidable c] {A B : Prop} (h1 : c → A) (h2 : ¬c → B) : if c then A else B := by
  by_cases h : c
  · rw [if_pos h]; exact h1 h
  · rw [if_neg h]; exact h2 h
theorem qcmp_lt {x y : Int} : qcmp x y < 0 ↔ x < y := by unfold qcmp; split <;> (try split) <;> omega
theorem qcmp_gt {x y : Int} : 0 < qcmp x y ↔ y < x := by unfold qcmp; split <;> (try split) <;> omega
theorem qcmp_R {x y : Int} : qR (qcmp x y) := by unfold qcmp; split <;> (try split) <;> exact ⟨by omega, by omega⟩
/-! what a pad does: 0 nothing, 1 it catches, 2 it finishes -/
def sDoes (k o ty : Int) : Int :=
  if k = 1 then 1 else if k = 2 then 2 else if k = 3 then (if ty < o then 0 else 1) else if ty = o then 1 else if k = 4 then 2 else 0
def sDA (pd N : Int → Int) (f p adr ty : Int) : Int :=
  if pd (15 * f + 5 * p + 1) ≤ adr ∧ adr ≤ pd (15 * f + 5 * p + 2) then sDoes (N (3 * f + p)) (pd (15 * f + 5 * p + 3)) ty else 0
/-- where the latest frame but n begins in the row -/
def sAt (N : Int → Int) (n : Int) : Int := 14 + 8 * (N 13 - 1 - n)
def sSv (om op : Int → Int) (f a : Int) : Nat → Int → Int → (Int → Int) → (Int → Int)
  | 0, _, _, N => N
  | k + 1, n, adr, N => if n < om f then
      (if op (24 * f + 3 * n) = 43 then sSv om op f a k (n + 1) (adr + op (24 * f + 3 * n + 1)) N
       else if op (24 * f + 3 * n) = 115 ∧ adr = N (a + 1) then sSv om op f a k (n + 1) adr (ui N (a + 2 + op (24 * f + 3 * n + 2)) (N (9 + op (24 * f + 3 * n + 1))))
       else sSv om op f a k (n + 1) adr N)
    else N
def cpf (R g : Int → Int) (lo hi : Int) : Int → Int := fun i => if lo ≤ i ∧ i < hi then g i else R i
theorem cpf_0 (R g : Int → Int) (lo : Int) : cpf R g lo lo = R := by
  funext i; unfold cpf; rw [if_neg (by omega)]
theorem cpf_s {R g : Int → Int} {lo hi : Int} (h : lo ≤ hi) : ui (cpf R g lo hi) hi (g hi) = cpf R g lo (hi + 1) := by
  funext i
  unfold ui cpf
  by_cases c : i = hi
  · rw [if_pos c, if_pos (by omega), c]
  · rw [if_neg c]
    by_cases d : lo ≤ i ∧ i < hi
    · rw [if_pos d, if_pos (by omega)]
    · rw [if_neg d, if_neg (by omega)]
theorem cpf_y {R g : Int → Int} {lo hi i : Int} (h : lo ≤ i ∧ i < hi) : cpf R g lo hi i = g i := if_pos h
theorem cpf_n {R g : Int → Int} {lo hi i : Int} (h : ¬ (lo ≤ i ∧ i < hi)) : cpf R g lo hi i = R i := if_neg h
def sClr (N : Int → Int) (a : Int) : Int → Int := cpf N (fun _ => 0) a (a + 8)
def sCall (om op : Int → Int) (N : Int → Int) (f : Int) : Int → Int :=
  sSv om op f (14 + 8 * N 13) 8 0 0 (ui (sClr (ui N 13 (N 13 + 1)) (14 + 8 * N 13)) (14 + 8 * N 13) f)
def sStep (om op : Int → Int) (N : Int → Int) : Int → Int :=
  sSv om op (N (sAt N 0)) (sAt N 0) 8 0 0 (ui N (sAt N 0 + 1) (N (sAt N 0 + 1) + 1))
def sGo (om op : Int → Int) : Nat → (Int → Int) → (Int → Int)
  | 0, N => N
  | k + 1, N => sGo om op k (sStep om op N)
def sCell (sv N : Int → Int) (n r : Int) : Int := sv (40 * N (sAt N n) + 4 * N (sAt N n + 1) + r)
def sReg (sv N : Int → Int) (n r v : Int) : Int := if sCell sv N n r = -1 then v else N (sAt N n + 2 + sCell sv N n r)
def sBack (sv N : Int → Int) : Int → Int := ui (cpf N (fun i => sReg sv N 0 (i - 9) (N i)) 9 13) 13 (N 13 - 1)
def sLp (pm pd N : Int → Int) (n ty : Int) : Nat → Int → Int → Int × Int
  | 0, _, fin => (-1, fin)
  | k + 1, p, fin => if p < pm (N (sAt N n)) then
      (if sDA pd N (N (sAt N n)) p (N (sAt N n + 1)) ty = 1 then (p, fin)
       else if sDA pd N (N (sAt N n)) p (N (sAt N n + 1)) ty = 2 then sLp pm pd N n ty k (p + 1) (fin + 1)
       else sLp pm pd N n ty k (p + 1) fin)
    else (-1, fin)
def sLc (pm pd N : Int → Int) (ty : Int) : Nat → Int → Int → Int × (Int × Int)
  | 0, _, fin => (-1, (-1, fin))
  | k + 1, n, fin => if n < N 13 then
      (if (sLp pm pd N n ty 3 0 fin).1 = -1 then sLc pm pd N ty k (n + 1) (sLp pm pd N n ty 3 0 fin).2
       else (n, sLp pm pd N n ty 3 0 fin))
    else (-1, (-1, fin))
def sCat (pm pd N : Int → Int) (ty : Int) : Int × (Int × Int) := sLc pm pd N ty 8 0 0
def sFin (pd : Int → Int) (ty before : Int) : Nat → Int → (Int → Int) → (Int → Int)
  | 0, _, N => N
  | k + 1, p, N => if p < before then
      (if sDA pd N (N (sAt N 0)) p (N (sAt N 0 + 1)) ty = 2 then sFin pd ty before k (p + 1) (ui (ui N (79 + N 78) (10 * N (sAt N 0) + p)) 78 (N 78 + 1))
       else sFin pd ty before k (p + 1) N)
    else N
def sUnw (sv pm pd : Int → Int) (ty : Int) : Nat → (Int → Int) → (Int → Int)
  | 0, N => N
  | k + 1, N => sUnw sv pm pd ty k (sBack sv (sFin pd ty (pm (N (sAt N 0))) 3 0 N))
def sEnd (pd : Int → Int) (ty cp : Int) (N : Int → Int) : Int → Int :=
  ui (sFin pd ty cp 3 0 N) (sAt N 0 + 1) (pd (15 * N (sAt N 0) + 5 * cp + 4))
def sRaise (sv pm pd N : Int → Int) (ty c cp : Int) : Int → Int := sEnd pd ty cp (sUnw sv pm pd ty c.toNat (ui N 78 0))
/-! what is given of the reference's cells: the functions, and a row of kinds, registers, frames -/
def CVd (D : qD) : Prop :=
  (0 ≤ D 28 14 ∧ D 28 14 ≤ 3) ∧
  (∀ f, 0 ≤ f → f < D 28 14 → 0 ≤ D 37 f ∧ D 37 f ≤ 8 ∧ 0 ≤ D 38 f ∧ D 38 f ≤ 3) ∧
  (∀ f n, 0 ≤ f → f < D 28 14 → 0 ≤ n → n < D 37 f →
    (D 39 (24 * f + 3 * n) = 43 ∧ 1 ≤ D 39 (24 * f + 3 * n + 1) ∧ D 39 (24 * f + 3 * n + 1) ≤ 9) ∨
    (D 39 (24 * f + 3 * n) = 115 ∧ 0 ≤ D 39 (24 * f + 3 * n + 1) ∧ D 39 (24 * f + 3 * n + 1) ≤ 3 ∧ 0 ≤ D 39 (24 * f + 3 * n + 2) ∧ D 39 (24 * f + 3 * n + 2) ≤ 5) ∨
    (D 39 (24 * f + 3 * n) = 117 ∧ 0 ≤ D 39 (24 * f + 3 * n + 1) ∧ D 39 (24 * f + 3 * n + 1) ≤ 3) ∨ D 39 (24 * f + 3 * n) = 109 ∨ D 39 (24 * f + 3 * n) = 98) ∧
  (∀ i, 0 ≤ i → i < 40 * D 28 14 → -1 ≤ D 34 i ∧ D 34 i ≤ 5) ∧
  (∀ i, 0 ≤ i → i < 10 * D 28 14 → 0 ≤ D 35 i ∧ D 35 i ≤ 3 ∧ 0 ≤ D 36 i ∧ D 36 i ≤ 9) ∧
  (∀ f p, 0 ≤ f → f < D 28 14 → 0 ≤ p → p < D 38 f →
    0 ≤ D 40 (15 * f + 5 * p) ∧ D 40 (15 * f + 5 * p) ≤ 4 ∧ 0 ≤ D 40 (15 * f + 5 * p + 1) ∧ D 40 (15 * f + 5 * p + 1) ≤ 9 ∧ 0 ≤ D 40 (15 * f + 5 * p + 2) ∧ D 40 (15 * f + 5 * p + 2) ≤ 9 ∧
    0 ≤ D 40 (15 * f + 5 * p + 3) ∧ D 40 (15 * f + 5 * p + 3) ≤ 4 ∧ 0 ≤ D 40 (15 * f + 5 * p + 4) ∧ D 40 (15 * f + 5 * p + 4) ≤ 9)
def RVd (nf : Int) (N : Int → Int) : Prop :=
  (0 ≤ N 13 ∧ N 13 ≤ 8) ∧ (∀ l, 0 ≤ l → l < N 13 → 0 ≤ N (14 + 8 * l) ∧ N (14 + 8 * l) < nf ∧ 0 ≤ N (14 + 8 * l + 1) ∧ N (14 + 8 * l + 1) ≤ 9) ∧
  (∀ k, 0 ≤ k → k < 9 → 0 ≤ N k ∧ N k ≤ 4) ∧ (0 ≤ N 78 ∧ N 78 ≤ 24) ∧ (∀ k, 0 ≤ k → k < 110 → qR (N k))
