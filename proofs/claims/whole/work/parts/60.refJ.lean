/-! ## the reference: what a letter does to the reading -/
abbrev zS : Type := (Int → Int) × ((Int → Int) × ((Int → Int) × ((Int → Int) × (Int → Int))))
def zOf (D : qD) : zS := (D 28, D 30, D 31, D 32, D 33)
def zKind (c : Int) : Int := if c = 97 then 1 else if c = 99 then 0 else if c = 102 then 2 else if c = 103 then 4 else if c = 117 then 3 else -1
def zEnd (s : zS) : zS := (ui (ui s.1 6 0) 3 (s.1 3 + 1), ui s.2.1 (s.1 2) (s.1 3 + 1), s.2.2.1, s.2.2.2.1, s.2.2.2.2)
def zOp0 (s : zS) (c : Int) : Option zS :=
  if c = 59 then some (ui s.1 5 1, s.2)
  else if s.1 3 = 8 then none
  else if c = 43 ∨ c = 115 ∨ c = 117 then some (ui (ui s.1 7 c) 6 1, s.2.1, s.2.2.1, ui s.2.2.2.1 (24 * s.1 2 + 3 * s.1 3) c, s.2.2.2.2)
  else if c = 109 ∧ s.1 9 < 3 then some (zEnd (ui (ui s.1 9 (s.1 9 + 1)) 7 c, s.2.1, s.2.2.1, ui s.2.2.2.1 (24 * s.1 2 + 3 * s.1 3) c, s.2.2.2.2))
  else if c = 98 ∧ 0 < s.1 9 then some (zEnd (ui (ui s.1 9 (s.1 9 + -1)) 7 c, s.2.1, s.2.2.1, ui s.2.2.2.1 (24 * s.1 2 + 3 * s.1 3) c, s.2.2.2.2))
  else none
def zOp1 (s : zS) (c : Int) : Option zS :=
  if s.1 7 = 43 then (if 49 ≤ c ∧ c ≤ 57 ∧ s.1 8 + c - 48 < 10 then some (zEnd (ui s.1 8 (s.1 8 + (c - 48)), s.2.1, s.2.2.1, ui s.2.2.2.1 (24 * s.1 2 + 3 * s.1 3 + s.1 6) (c - 48), s.2.2.2.2)) else none)
  else if s.1 6 = 1 then (if 48 ≤ c ∧ c ≤ 51 then (if s.1 7 = 115 then some (ui s.1 6 2, s.2.1, s.2.2.1, ui s.2.2.2.1 (24 * s.1 2 + 3 * s.1 3 + 1) (c - 48), s.2.2.2.2) else some (zEnd (s.1, s.2.1, s.2.2.1, ui s.2.2.2.1 (24 * s.1 2 + 3 * s.1 3 + 1) (c - 48), s.2.2.2.2))) else none)
  else if 48 ≤ c ∧ c ≤ 53 then some (zEnd (s.1, s.2.1, s.2.2.1, ui s.2.2.2.1 (24 * s.1 2 + 3 * s.1 3 + 2) (c - 48), s.2.2.2.2)) else none
def zBeg (F : Int → Int) : Int → Int := ui (ui (ui (ui (ui (ui (ui F 2 (F 2 + 1)) 3 0) 4 0) 5 0) 6 0) 8 0) 9 0
def zPd0 (s : zS) (c : Int) : Option zS :=
  if c = 47 ∧ s.1 2 < 2 then some (zBeg s.1, ui s.2.1 (s.1 2 + 1) 0, ui s.2.2.1 (s.1 2 + 1) 0, s.2.2.2.1, s.2.2.2.2)
  else if zKind c = -1 then none else if s.1 4 = 3 then none
  else some (ui s.1 6 1, s.2.1, s.2.2.1, s.2.2.2.1, ui s.2.2.2.2 (15 * s.1 2 + 5 * s.1 4) (zKind c))
def zPd1 (s : zS) (c : Int) : Option zS :=
  if 48 ≤ c ∧ c ≤ 57 ∧ (s.1 6 = 3 → c ≤ 52) ∧ (s.1 6 = 2 → s.2.2.2.2 (15 * s.1 2 + 5 * s.1 4 + 1) ≤ c - 48) then
    (if s.1 6 = 4 then some (ui (ui s.1 6 0) 4 (s.1 4 + 1), s.2.1, ui s.2.2.1 (s.1 2) (s.1 4 + 1), s.2.2.2.1, ui s.2.2.2.2 (15 * s.1 2 + 5 * s.1 4 + 4) (c - 48))
     else some (ui s.1 6 (s.1 6 + 1), s.2.1, s.2.2.1, s.2.2.2.1, ui s.2.2.2.2 (15 * s.1 2 + 5 * s.1 4 + s.1 6) (c - 48)))
  else none
def zStep (s : zS) (c : Int) : Option zS := if s.1 5 = 0 then (if s.1 6 = 0 then zOp0 s c else zOp1 s c) else (if s.1 6 = 0 then zPd0 s c else zPd1 s c)
/-- what holds of a reading -/
def zV (s : zS) : Prop := (0 ≤ s.1 2 ∧ s.1 2 ≤ 2) ∧ (0 ≤ s.1 3 ∧ s.1 3 ≤ 8) ∧ (0 ≤ s.1 4 ∧ s.1 4 ≤ 3) ∧ (s.1 5 = 0 ∨ s.1 5 = 1) ∧ (0 ≤ s.1 8 ∧ s.1 8 ≤ 9) ∧ (0 ≤ s.1 9 ∧ s.1 9 ≤ 3) ∧
  (s.1 5 = 0 → s.1 6 = 0 ∨ (s.1 3 < 8 ∧ ((s.1 7 = 43 ∧ s.1 6 = 1) ∨ (s.1 7 = 117 ∧ s.1 6 = 1) ∨ (s.1 7 = 115 ∧ (s.1 6 = 1 ∨ s.1 6 = 2))))) ∧
  (s.1 5 = 1 → 0 ≤ s.1 6 ∧ s.1 6 ≤ 4 ∧ (s.1 6 = 0 ∨ s.1 4 < 3)) ∧
  (s.1 5 = 1 → s.1 6 = 2 → 0 ≤ s.2.2.2.2 (15 * s.1 2 + 5 * s.1 4 + 1) ∧ s.2.2.2.2 (15 * s.1 2 + 5 * s.1 4 + 1) ≤ 9)
theorem SQ.u28 {D E : qD} {i x : Int} (q : SQ D E) (h : i ≠ 1 ∧ i ≠ 14 ∧ i ≠ 15 ∧ i ≠ 27 ∧ i ≠ 31 ∧ i ≠ 35 ∧ i ≠ 36 ∧ i ≠ 37) : SQ D (up E 28 i x) := by
  obtain ⟨q0, q1, q2, q3, q4, q5, q6, q7, q8⟩ := q
  obtain ⟨h1, h2, h3, h4, h5, h6, h7, h8⟩ := h
  rw [up_eq]
  refine ⟨fun a g1 g2 g3 g4 g5 g6 g7 => (upr_n g1).trans (q0 a g1 g2 g3 g4 g5 g6 g7), ?_, ?_, ?_, ?_, ?_, ?_, ?_, ?_⟩ <;> rw [upr_s, ui_n (by omega)] <;> assumption
theorem SQ.uS {D E : qD} {a : Nat} {i x : Int} (q : SQ D E) (h : a = 30 ∨ a = 31 ∨ a = 32 ∨ a = 33) : SQ D (up E a i x) := by
  obtain ⟨q0, q1⟩ := q
  rw [up_eq]
  refine ⟨fun b g1 g2 g3 g4 g5 g6 g7 => (upr_n (by omega)).trans (q0 b g1 g2 g3 g4 g5 g6 g7), ?_⟩
  rw [upr_n (show 28 ≠ a by omega)]
  exact q1
section RJ
variable {S : (Nat → Int32) × Nat} {t : qT} {D : qD} {Q : Int → qT → qD → Prop}
theorem c113 {c : Int} (hc : qR c) (k : Q (zKind c) t D) : wp S 113 0 [some (qi c)] [] t D Q := by
  unfold zKind at k
  refine b113_0 (chk_i hc (ite_i (fun c1 => ?_) fun c1 => ite_i (fun c2 => ?_) fun c2 => ite_i (fun c3 => ?_) fun c3 => ite_i (fun c4 => ?_) fun c4 => ite_i (fun c5 => ?_) fun c5 => ?_))
  · rwa [if_pos c1] at k
  · rwa [if_neg c1, if_pos c2] at k
  · rwa [if_neg c1, if_neg c2, if_pos c3] at k
  · rwa [if_neg c1, if_neg c2, if_neg c3, if_pos c4] at k
  · rwa [if_neg c1, if_neg c2, if_neg c3, if_neg c4, if_pos c5] at k
  · rwa [if_neg c1, if_neg c2, if_neg c3, if_neg c4, if_neg c5] at k
theorem zKind_r (c : Int) : -1 ≤ zKind c ∧ zKind c ≤ 4 := by unfold zKind; (repeat' split) <;> omega
def zDig (op : Int) : Int := if op = 115 then 2 else if op = 43 then 1 else if op = 117 then 1 else 0
theorem c116 (h7 : qR (D 28 7)) (h6 : qR (D 28 6)) (h2 : 0 ≤ D 28 2 ∧ D 28 2 < 3) (k1 : zDig (D 28 7) < D 28 6 → Q 0 t (up (up (up D 28 6 0) 28 3 (D 28 3 + 1)) 30 (D 28 2) (D 28 3 + 1))) (k0 : ¬ zDig (D 28 7) < D 28 6 → Q 0 t D) : wp S 116 0 [some (qs 28)] [] t D Q := by
  have key : ∀ x, zDig (D 28 7) = x → qR x → chk (qR (D 28 6)) (chk (qR x) (if x < D 28 6 then chk (0 ≤ D 28 2 ∧ D 28 2 < 3) (Q 0 t (up (up (up D 28 6 0) 28 3 (D 28 3 + 1)) 30 (D 28 2) (D 28 3 + 1))) else Q 0 t D)) := fun x hx hr => by
    rw [hx] at k1 k0
    exact chk_i h6 (chk_i hr (ite_i (fun c => chk_i h2 (k1 c)) fun c => k0 c))
  unfold zDig at key
  refine b116_0 (b115_0 (chk_i h7 (ite_i (fun c => ?_) fun c => chk_i h7 (ite_i (fun c2 => ?_) fun c2 => chk_i h7 (ite_i (fun c3 => ?_) fun c3 => ?_)))))
  · exact key 2 (if_pos c) (by omega)
  · exact key 1 (by rw [if_neg c, if_pos c2]) (by omega)
  · exact key 1 (by rw [if_neg c, if_neg c2, if_pos c3]) (by omega)
  · exact key 0 (by rw [if_neg c, if_neg c2, if_neg c3]) (by omega)
theorem c117 {c : Int} (hc : 1 ≤ c ∧ c ≤ 126) (hz : zV (zOf D)) (h5 : D 28 5 = 0) (h6 : D 28 6 = 0) (k1 : ∀ E, zStep (zOf D) c = some (zOf E) → SQ D E → Q 1 t E) (k0 : ∀ E, zStep (zOf D) c = none → SQ D E → Q 0 t E) : wp S 117 0 [some (qs 28), some (qi c), none] [] t D Q := by
  obtain ⟨z2, z3, z4, z5, z8, z9, za, zb, zc⟩ := hz
  have z2 : 0 ≤ D 28 2 ∧ D 28 2 ≤ 2 := z2
  have z3 : 0 ≤ D 28 3 ∧ D 28 3 ≤ 8 := z3
  have z9 : 0 ≤ D 28 9 ∧ D 28 9 ≤ 3 := z9
  have e : zStep (zOf D) c = zOp0 (zOf D) c := by unfold zStep; rw [if_pos (show (zOf D).1 5 = 0 from h5), if_pos (show (zOf D).1 6 = 0 from h6)]
  rw [e] at k1 k0
  have l0 : zOp0 (zOf D) c = none → Q 0 t D := fun h => k0 D h SQ.rfl'
  have o1 : ∀ {x y : Int}, (h7 : c = 43 ∨ c = 115 ∨ c = 117) → x = 0 → ¬ D 28 3 = 8 → wp S 116 0 [some (qs 28)] [] t (up (up (up (up D 28 9 (D 28 9 + x)) 28 7 c) 32 (24 * D 28 2 + 3 * D 28 3) c) 28 6 1) (fun _ t1 D1 => Q 1 t1 D1) := fun {x y} h7 hx h8 => by
    subst hx
    have hdig : 1 ≤ zDig c := by unfold zDig; (repeat' split) <;> omega
    refine c116 (show qR c by omega) (show qR 1 by omega) (show 0 ≤ D 28 2 ∧ D 28 2 < 3 by omega) (fun h => absurd (show zDig c < 1 from h) (by omega)) fun h => k1 _ ?_ ((((SQ.rfl'.u28 (by decide)).u28 (by decide)).uS (by decide)).u28 (by decide))
    unfold zOp0
    rw [if_neg (by omega), if_neg (show ¬ (zOf D).1 3 = 8 from h8), if_pos h7]
    simp only [zOf, up_eq, upr_u, upr_s, upr_b, Nat.reduceBEq, Int.add_zero, ui_id]
  have o2 : ∀ {x : Int}, ((c = 109 ∧ D 28 9 < 3 ∧ x = 1) ∨ (c = 98 ∧ 0 < D 28 9 ∧ x = -1)) → ¬ D 28 3 = 8 → wp S 116 0 [some (qs 28)] [] t (up (up (up (up D 28 9 (D 28 9 + x)) 28 7 c) 32 (24 * D 28 2 + 3 * D 28 3) c) 28 6 1) (fun _ t1 D1 => Q 1 t1 D1) := fun {x} hcx h8 => by
    have hdig : zDig c = 0 := by unfold zDig; (repeat' split) <;> omega
    refine c116 (show qR c by omega) (show qR 1 by omega) (show 0 ≤ D 28 2 ∧ D 28 2 < 3 by omega) (fun h => k1 _ ?_ (((((((SQ.rfl'.u28 (by decide)).u28 (by decide)).uS (by decide)).u28 (by decide)).u28 (by decide)).u28 (by decide)).uS (by decide))) fun h => absurd (show zDig c < 1 by omega) h
    unfold zOp0
    rw [if_neg (by omega), if_neg (show ¬ (zOf D).1 3 = 8 from h8), if_neg (by omega)]
    rcases hcx with ⟨rfl, h9, rfl⟩ | ⟨rfl, h9, rfl⟩
    · rw [if_pos ⟨rfl, h9⟩]
      simp only [zOf, zEnd, up_eq, upr_u, upr_s, upr_b, Nat.reduceBEq, ui_u]
      rfl
    · rw [if_neg (by omega), if_pos ⟨rfl, h9⟩]
      simp only [zOf, zEnd, up_eq, upr_u, upr_s, upr_b, Nat.reduceBEq, ui_u]
      rfl
  have n8 : c ≠ 59 → D 28 3 = 8 → Q 0 t D := fun h1 h2 => l0 (by unfold zOp0; rw [if_neg h1, if_pos (show (zOf D).1 3 = 8 from h2)])
  have nn : c ≠ 59 → ¬ (c = 43 ∨ c = 115 ∨ c = 117) → ¬ (c = 109 ∧ D 28 9 < 3) → ¬ (c = 98 ∧ 0 < D 28 9) → Q 0 t D := fun h1 h2 h3 h4 => l0 (by
    unfold zOp0
    rw [if_neg h1]
    by_cases h8 : (zOf D).1 3 = 8
    · rw [if_pos h8]
    · rw [if_neg h8, if_neg h2, if_neg (show ¬ (c = 109 ∧ (zOf D).1 9 < 3) from h3), if_neg (show ¬ (c = 98 ∧ 0 < (zOf D).1 9) from h4)])
  refine b117_0 ?_
  repeat' first
    | exact o1 (y := 0) (by omega) (by omega) (by assumption)
    | exact o2 (by omega) (by assumption)
    | exact n8 (by omega) (by omega)
    | exact nn (by omega) (by omega) (by omega) (by omega)
    | refine chk_i (by omega) ?_
    | refine ite_i (fun _ => ?_) (fun _ => ?_)
    | (exfalso; omega)
  rename_i h
  refine k1 _ ?_ (SQ.rfl'.u28 (by decide))
  unfold zOp0
  rw [if_pos h]
  simp only [zOf, up_eq, upr_s, upr_b, Nat.reduceBEq]
end RJ
