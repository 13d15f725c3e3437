/-! ## the reference: what a letter does to the reading -/
abbrev zS : Type := (Int → Int) × ((Int → Int) × ((Int → Int) × ((Int → Int) × (Int → Int))))
def zOf (D : qD) : zS := (D 28, D 30, D 31, D 32, D 33)
def zKind (c : Int) : Int := if c = 97 then 1 else if c = 99 then 0 else if c = 102 then 2 else if c = 103 then 4 else if c = 117 then 3 else -1
def zEnd (s : zS) : zS := (ui (ui s.1 6 0) 3 (s.1 3 + 1), ui s.2.1 (s.1 2) (s.1 3 + 1), s.2.2.1, s.2.2.2.1, s.2.2.2.2)
def zOp0 (s : zS) (c : Int) : Option zS :=
  if c = 59 then some (ui s.1 5 1, s.2)
  else if s.1 3 = 8 then none
  else if c = 43 ∨ c = 115 ∨ c = 117 then some (ui (ui s.1 7 c) 6 1, s.2.1, s.2.2.1, ui s.2.2.2.1 (24 * s.1 2 + 3 * s.1 3) c, s.2.2.2.2)
  else if c = 109 ∧ s.1 9 < 3 then some (zEnd (ui (ui s.1 9 (s.1 9 + 1)) 7 c, s.2.1, s.2.2.1, ui s.2.2.2.1 (24 * s.1 2 + 3 * s.1 3) c, s.2.2.2.2))
  else if c = 98 ∧ 0 < s.1 9 then some (zEnd (ui (ui s.1 9 (s.1 9 + -1)) 7 c, s.2.1, s.2.2.1, ui s.2.2.2.1 (24 * s.1 2 + 3 * s.1 3) c, s.2.2.2.2))
  else none
def zOp1 (s : zS) (c : Int) : Option zS :=
  if s.1 7 = 43 then (if 49 ≤ c ∧ c ≤ 57 ∧ s.1 8 + c - 48 < 10 then some (zEnd (ui s.1 8 (s.1 8 + (c - 48)), s.2.1, s.2.2.1, ui s.2.2.2.1 (24 * s.1 2 + 3 * s.1 3 + s.1 6) (c - 48), s.2.2.2.2)) else none)
  else if s.1 6 = 1 then (if 48 ≤ c ∧ c ≤ 51 then (if s.1 7 = 115 then some (ui s.1 6 2, s.2.1, s.2.2.1, ui s.2.2.2.1 (24 * s.1 2 + 3 * s.1 3 + 1) (c - 48), s.2.2.2.2) else some (zEnd (s.1, s.2.1, s.2.2.1, ui s.2.2.2.1 (24 * s.1 2 + 3 * s.1 3 + 1) (c - 48), s.2.2.2.2))) else none)
  else if 48 ≤ c ∧ c ≤ 53 then some (zEnd (s.1, s.2.1, s.2.2.1, ui s.2.2.2.1 (24 * s.1 2 + 3 * s.1 3 + 2) (c - 48), s.2.2.2.2)) else none
def zBeg (F : Int → Int) : Int → Int := ui (ui (ui (ui (ui (ui (ui F 2 (F 2 + 1)) 3 0) 4 0) 5 0) 6 0) 8 0) 9 0
def zPd0 (s : zS) (c : Int) : Option zS :=
  if c = 47 ∧ s.1 2 < 2 then some (zBeg s.1, ui s.2.1 (s.1 2 + 1) 0, ui s.2.2.1 (s.1 2 + 1) 0, s.2.2.2.1, s.2.2.2.2)
  else if zKind c = -1 then none else if s.1 4 = 3 then none
  else some (ui s.1 6 1, s.2.1, s.2.2.1, s.2.2.2.1, ui s.2.2.2.2 (15 * s.1 2 + 5 * s.1 4) (zKind c))
def zPd1 (s : zS) (c : Int) : Option zS :=
  if 48 ≤ c ∧ c ≤ 57 ∧ (s.1 6 = 3 → c ≤ 52) ∧ (s.1 6 = 2 → s.2.2.2.2 (15 * s.1 2 + 5 * s.1 4 + 1) ≤ c - 48) then
    (if s.1 6 = 4 then some (ui (ui s.1 6 0) 4 (s.1 4 + 1), s.2.1, ui s.2.2.1 (s.1 2) (s.1 4 + 1), s.2.2.2.1, ui s.2.2.2.2 (15 * s.1 2 + 5 * s.1 4 + 4) (c - 48))
     else some (ui s.1 6 (s.1 6 + 1), s.2.1, s.2.2.1, s.2.2.2.1, ui s.2.2.2.2 (15 * s.1 2 + 5 * s.1 4 + s.1 6) (c - 48)))
  else none
def zStep (s : zS) (c : Int) : Option zS := if s.1 5 = 0 then (if s.1 6 = 0 then zOp0 s c else zOp1 s c) else (if s.1 6 = 0 then zPd0 s c else zPd1 s c)
/-- what holds of a reading -/
def zV (s : zS) : Prop := (0 ≤ s.1 2 ∧ s.1 2 ≤ 2) ∧ (0 ≤ s.1 3 ∧ s.1 3 ≤ 8) ∧ (0 ≤ s.1 4 ∧ s.1 4 ≤ 3) ∧ (s.1 5 = 0 ∨ s.1 5 = 1) ∧ (0 ≤ s.1 8 ∧ s.1 8 ≤ 9) ∧ (0 ≤ s.1 9 ∧ s.1 9 ≤ 3) ∧
  (s.1 5 = 0 → s.1 6 = 0 ∨ (s.1 3 < 8 ∧ ((s.1 7 = 43 ∧ s.1 6 = 1) ∨ (s.1 7 = 117 ∧ s.1 6 = 1) ∨ (s.1 7 = 115 ∧ (s.1 6 = 1 ∨ s.1 6 = 2))))) ∧
  (s.1 5 = 1 → 0 ≤ s.1 6 ∧ s.1 6 ≤ 4 ∧ (s.1 6 = 0 ∨ s.1 4 < 3)) ∧
  (s.1 5 = 1 → s.1 6 = 2 → 0 ≤ s.2.2.2.2 (15 * s.1 2 + 5 * s.1 4 + 1) ∧ s.2.2.2.2 (15 * s.1 2 + 5 * s.1 4 + 1) ≤ 9)
theorem SQ.u28 {D E : qD} {i x : Int} (q : SQ D E) (h : i ≠ 1 ∧ i ≠ 14 ∧ i ≠ 15 ∧ i ≠ 27 ∧ i ≠ 31 ∧ i ≠ 35 ∧ i ≠ 36 ∧ i ≠ 37) : SQ D (up E 28 i x) := by
  obtain ⟨q0, q1, q2, q3, q4, q5, q6, q7, q8⟩ := q
  obtain ⟨h1, h2, h3, h4, h5, h6, h7, h8⟩ := h
  rw [up_eq]
  refine ⟨fun a g1 g2 g3 g4 g5 g6 g7 => (upr_n g1).trans (q0 a g1 g2 g3 g4 g5 g6 g7), ?_, ?_, ?_, ?_, ?_, ?_, ?_, ?_⟩ <;> rw [upr_s, ui_n (by omega)] <;> assumption
theorem SQ.uS {D E : qD} {a : Nat} {i x : Int} (q : SQ D E) (h : a = 30 ∨ a = 31 ∨ a = 32 ∨ a = 33) : SQ D (up E a i x) := by
  obtain ⟨q0, q1⟩ := q
  rw [up_eq]
  refine ⟨fun b g1 g2 g3 g4 g5 g6 g7 => (upr_n (by omega)).trans (q0 b g1 g2 g3 g4 g5 g6 g7), ?_⟩
  rw [upr_n (show 28 ≠ a by omega)]
  exact q1
section RJ
variable {S : (Nat → Int32) × Nat} {t : qT} {D : qD} {Q : Int → qT → qD → Prop}
theorem zKind_r (c : Int) : -1 ≤ zKind c ∧ zKind c ≤ 4 := by unfold zKind; (repeat' split) <;> omega
def zDig (op : Int) : Int := if op = 115 then 2 else if op = 43 then 1 else if op = 117 then 1 else 0
end RJ
