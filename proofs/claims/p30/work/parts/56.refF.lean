/-! ## the reference's calls that do: call, go, set, back, raise, change, undo; page -/
def SC (D E : qD) : Prop := E 28 14 = D 28 14 ∧ E 34 = D 34 ∧ E 35 = D 35 ∧ E 36 = D 36 ∧ E 37 = D 37 ∧ E 38 = D 38 ∧ E 39 = D 39 ∧ E 40 = D 40
theorem CVd.sc {D E : qD} (h : CVd D) (e : SC D E) : CVd E := by
  obtain ⟨e0, e1, e2, e3, e4, e5, e6, e7⟩ := e
  unfold CVd
  rw [e0, e1, e2, e3, e4, e5, e6, e7]
  exact h
theorem sKeep_n {D : qD} {b : Nat} (h1 : b ≠ 43) (h2 : b ≠ 28) : sKeep D b = D b := by unfold sKeep; rw [upr_n h2, upr_n h1]
theorem sKeep_28 {D : qD} {i : Int} (h : i ≠ 27) : sKeep D 28 i = D 28 i := by unfold sKeep; rw [upr_s, ui_n h]
theorem SC.keep {D : qD} : SC D (sKeep D) := ⟨sKeep_28 (by decide), sKeep_n (by decide) (by decide), sKeep_n (by decide) (by decide), sKeep_n (by decide) (by decide), sKeep_n (by decide) (by decide), sKeep_n (by decide) (by decide), sKeep_n (by decide) (by decide), sKeep_n (by decide) (by decide)⟩
theorem SC.u42 {D : qD} {N : Int → Int} : SC D (upr D 42 N) := ⟨rfl, rfl, rfl, rfl, rfl, rfl, rfl, rfl⟩
theorem SC.trans {D E F : qD} (h : SC D E) (k : SC E F) : SC D F := by
  obtain ⟨e0, e1, e2, e3, e4, e5, e6, e7⟩ := h
  obtain ⟨f0, f1, f2, f3, f4, f5, f6, f7⟩ := k
  exact ⟨f0.trans e0, f1.trans e1, f2.trans e2, f3.trans e3, f4.trans e4, f5.trans e5, f6.trans e6, f7.trans e7⟩
theorem SC.u28 {D : qD} {R : Int → Int} (h : R 14 = D 28 14) : SC D (upr D 28 R) := ⟨h, rfl, rfl, rfl, rfl, rfl, rfl, rfl⟩
def isF (D : qD) (f : Int) : Prop := 0 ≤ f ∧ f < D 28 14
def isP (D : qD) (f p : Int) : Prop := 0 ≤ f ∧ f < D 28 14 ∧ 0 ≤ p ∧ p < D 38 f
/-- what is given of the reference between two calls -/
def RVs (D : qD) : Prop := CVd D ∧ RVd (D 28 14) (D 42) ∧ (0 ≤ D 28 27 ∧ D 28 27 ≤ 30) ∧ (0 ≤ D 28 31 ∧ D 28 31 ≤ 6) ∧ (0 ≤ D 28 1 ∧ D 28 1 ≤ 100) ∧ (0 ≤ D 28 15 ∧ D 28 15 ≤ 512) ∧
  (∀ i, 0 ≤ i → i < 24 → 0 ≤ D 44 i ∧ D 44 i ≤ 4) ∧ (∀ i, 0 ≤ i → i < D 28 1 → 1 ≤ D 29 i ∧ D 29 i ≤ 126)
def pCall (D : qD) (f : Int) : Int × qD := if ¬ (0 ≤ f ∧ f < D 28 14) then (-101, D) else if D 42 13 = 8 then (-104, D) else (D 42 13 + 1, upr (sKeep D) 42 (sCall (D 37) (D 39) (D 42) f))
def pGo (D : qD) (b : Int) : Int × qD := if ¬ (1 ≤ b ∧ b ≤ 9) then (-102, D) else if D 42 13 = 0 then (-103, D) else if 9 < D 42 (sAt (D 42) 0 + 1) + b then (-103, D) else (D 42 (sAt (D 42) 0 + 1) + b, upr (sKeep D) 42 (sGo (D 37) (D 39) b.toNat (D 42)))
def pSet (D : qD) (r v : Int) : Int × qD := if ¬ (0 ≤ r ∧ r ≤ 3) then (-101, D) else if ¬ (0 ≤ v ∧ v ≤ 999) then (-102, D) else if D 28 14 = 0 then (-103, D) else (D 42 (9 + r), upr (sKeep D) 42 (ui (D 42) (9 + r) v))
def pBack (D : qD) : Int × qD := if D 42 13 = 0 then (-103, D) else (D 42 13 - 1, upr (sKeep D) 42 (sBack (D 34) (D 42)))
def pRaise (D : qD) (ty : Int) : Int × qD := if ¬ (0 ≤ ty ∧ ty ≤ 4) then (-102, D) else if D 28 14 = 0 then (-103, D) else if (sCat (D 38) (D 40) (D 42) ty).1 = -1 then (-1, D)
  else ((sCat (D 38) (D 40) (D 42) ty).1, upr (sKeep D) 42 (sRaise (D 34) (D 38) (D 40) (D 42) ty (sCat (D 38) (D 40) (D 42) ty).1 (sCat (D 38) (D 40) (D 42) ty).2.1))
def pChange (D : qD) (f p kd : Int) : Int × qD := if ¬ (0 ≤ f ∧ f < D 28 14 ∧ 0 ≤ p ∧ p < D 38 f) then (-101, D) else if ¬ (0 ≤ kd ∧ kd ≤ 4) then (-102, D) else (D 42 (3 * f + p), upr (sKeep D) 42 (ui (D 42) (3 * f + p) kd))
def pUndo (D : qD) : Int × qD := if D 28 27 = 0 then (-103, D) else (D 28 27 - 1, sPop D)
def pLetter (D : qD) (c : Int) : Int × qD := if ¬ (1 ≤ c ∧ c ≤ 126) then (-102, D) else if D 28 1 = 100 then (-104, D) else (D 28 1 + 1, upr (upr D 29 (ui (D 29) (D 28 1) c)) 28 (ui (D 28) 1 (D 28 1 + 1)))
def pBlank (D : qD) : Int × qD := (D 28 1, upr D 28 (ui (D 28) 1 0))
/-- scratch of the reference that no call shows -/
def SQ (D E : qD) : Prop := (∀ a, a ≠ 28 → a ≠ 30 → a ≠ 31 → a ≠ 32 → a ≠ 33 → a ≠ 41 → a ≠ 45 → E a = D a) ∧
  E 28 1 = D 28 1 ∧ E 28 14 = D 28 14 ∧ E 28 15 = D 28 15 ∧ E 28 27 = D 28 27 ∧ E 28 31 = D 28 31 ∧ E 28 35 = D 28 35 ∧ E 28 36 = D 28 36 ∧ E 28 37 = D 28 37
theorem SQ.rfl' {D : qD} : SQ D D := ⟨fun _ _ _ _ _ _ _ _ => rfl, rfl, rfl, rfl, rfl, rfl, rfl, rfl, rfl⟩
theorem SQ.s28 {D : qD} {c p f : Int} : SQ D (upr D 28 (s28 (D 28) c p f)) := ⟨fun _ h _ _ _ _ _ _ => upr_n h, rfl, rfl, rfl, rfl, rfl, rfl, rfl, rfl⟩
section RF
variable {S : (Nat → Int32) × Nat} {t : qT} {D : qD} {Q : Int → qT → qD → Prop}
theorem tf {c : Prop} [Decidable c] {A B : Prop} (h1 : c → B) (h2 : ¬ c → A) : if (if c then (1 : Int) else 0) = 0 then A else B := by
  by_cases h : c
  · rw [if_pos h]; exact h1 h
  · rw [if_neg h]; exact h2 h
theorem tfR {c : Prop} [Decidable c] : qR (if c then (1 : Int) else 0) := by split <;> exact ⟨by omega, by omega⟩
end RF
