/-! ## the class's scribe -/
def SO (t : qT) (a k : Nat) : Prop := ((t.1 a).1 = 6 ∧ t.2.1 a 0 = 1 ∧ t.2.1 a 1 = k ∧ t.2.1 a 2 = a + 1 ∧ t.2.1 a 3 = a + 2) ∧ (t.1 (a + 1) = (10, 4) ∧ t.1 (a + 2) = (10, 12)) ∧ CO t k ∧ (t.2.1 k 1 = k + 1 ∧ t.2.1 k 2 = k + 2 ∧ t.2.1 k 3 = k + 3 ∧ t.2.1 k 4 = k + 4 ∧ t.2.1 k 5 = k + 5) ∧ 34 ≤ k ∧ k + 5 < a
section KS
variable {S : (Nat → Int32) × Nat} {t : qT} {D G : qD} {Q : Int → qT → qD → Prop} {k a : Nat} {f : Int}
def rowV (D : qD) (a : Nat) (w : Int) : Int := if w < 4 then D (a + 1) w else if w = 4 then D a 4 else D a 7
theorem c2 {x w v : Int} (h : CO t k) (hi : 0 ≤ (f * 10 + x) * 6 + w ∧ (f * 10 + x) * 6 + w < 180) (q : Q 0 t (up D (t.2.1 k 1) ((f * 10 + x) * 6 + w) v)) : wp S 2 0 [some (qr k), some (qi f), some (qi x), some (qi w), some (qi v)] [] t D Q := by
  obtain ⟨h0, h1, -⟩ := h
  exact b2_0 (chk_i h0.1 (chk_i h1.1 (chk_i (by rw [h1.2.1]; exact hi) q)))
/-- rows written so far: the addresses from lo to x, and of x the first w parts -/
def WR (D0 E : qD) (a k : Nat) (f lo x w : Int) : Prop := (∀ b, b ≠ k + 1 → E b = D0 b) ∧ ∀ y v, 0 ≤ v → v < 6 → E (k + 1) ((f * 10 + y) * 6 + v) = if (lo ≤ y ∧ y < x) ∨ (y = x ∧ v < w) then rowV D0 a v else D0 (k + 1) ((f * 10 + y) * 6 + v)
theorem WR.up {D0 E : qD} {lo x w : Int} (h : WR D0 E a k f lo x w) (hw : 0 ≤ w ∧ w < 6) (hx : lo ≤ x) : WR D0 (up E (k + 1) ((f * 10 + x) * 6 + w) (rowV D0 a w)) a k f lo x (w + 1) := by
  obtain ⟨h1, h2⟩ := h
  refine ⟨fun b hb => by rw [up_eq, upr_n hb]; exact h1 b hb, fun y v a1 a2 => ?_⟩
  rw [up_eq, upr_s]
  by_cases c : y = x ∧ v = w
  · rw [c.1, c.2, ui_s, if_pos (by omega)]
  · rw [ui_n (by omega), h2 y v a1 a2]
    by_cases c2 : (lo ≤ y ∧ y < x) ∨ (y = x ∧ v < w)
    · rw [if_pos c2, if_pos (by omega)]
    · rw [if_neg c2, if_neg (by omega)]
theorem WR.nx {D0 E : qD} {lo x : Int} (h : WR D0 E a k f lo x 6) (hx : lo ≤ x) : WR D0 E a k f lo (x + 1) 0 := by
  obtain ⟨h1, h2⟩ := h
  refine ⟨h1, fun y v a1 a2 => ?_⟩
  rw [h2 y v a1 a2]
  by_cases c2 : (lo ≤ y ∧ y < x) ∨ (y = x ∧ v < 6)
  · rw [if_pos c2, if_pos (by omega)]
  · rw [if_neg c2, if_neg (by omega)]
theorem c60 {to lo : Int} (hO : SO t a k) (hf : 0 ≤ f ∧ f < 3) (hlo : D a 6 = lo) (h0 : 0 ≤ lo ∧ lo ≤ to ∧ to ≤ 10)
    (q : ∀ D', (∀ b, b ≠ k + 1 → b ≠ a → D' b = D b) → (∀ i, i ≠ 6 → D' a i = D a i) → D' a 6 = to → (∀ y v, 0 ≤ v → v < 6 → D' (k + 1) ((f * 10 + y) * 6 + v) = if lo ≤ y ∧ y < to then rowV D a v else D (k + 1) ((f * 10 + y) * 6 + v)) → Q 0 t D') :
    wp S 58 0 [some (qr a), some (qi f), some (qi to), none, none] [] t D Q := by
  obtain ⟨⟨o1, o2, o3, o4, o5⟩, ⟨o6, o7⟩, o8, ⟨o9, o10, o11, o12, o13⟩, o14, o15⟩ := hO
  have hka : a ≠ k + 1 := by omega
  have fin : ∀ (x : Int) (E : qD), x = to → WR D E a k f lo x 0 → Q 0 t (up E a 6 to) := fun x E hx hW => by
    refine q _ (fun b b1 b2 => by rw [up_eq, upr_n b2]; exact hW.1 b b1) (fun i hi => by rw [up_eq, upr_s, ui_n hi, hW.1 a hka]) (by rw [up_eq, upr_s, ui_s]) fun y v a1 a2 => ?_
    rw [up_eq, upr_n (by omega), hW.2 y v a1 a2]
    by_cases c : lo ≤ y ∧ y < to
    · rw [if_pos c, if_pos (by omega)]
    · rw [if_neg c, if_neg (by omega)]
  have lp : ∀ (m : Nat) (x : Int) (o4 : Option qV) (E : qD), x + m = to → lo ≤ x → WR D E a k f lo x 0 → wp S 58 5 [some (qr a), some (qi f), some (qi to), some (qi x), o4] [] t E Q := by
    intro m
    induction m with
    | zero =>
      intro x o4 E hx hl hW
      exact b60_5 (chk_i (by omega) (chk_i (by omega) (ite_i (fun c => absurd c (by omega)) fun _ => chk_i o1 (fin x E (by omega) hW))))
    | succ m ih =>
      intro x o4' E hx hl hW
      have inn : ∀ (m' : Nat) (w : Int) (E : qD), w + m' = 4 → 0 ≤ w → WR D E a k f lo x w → wp S 58 19 [some (qr a), some (qi f), some (qi to), some (qi x), some (qi w)] [] t E Q := by
        intro m'
        induction m' with
        | zero =>
          intro w E hw w0 hW
          obtain rfl : w = 4 := by omega
          have hW5 := hW.up ⟨by decide, by decide⟩ hl
          have hW6 := hW5.up ⟨by decide, by decide⟩ hl
          refine b60_19 (chk_i (by omega) (ite_i (fun c => absurd c (by decide)) fun _ => chk_i o1 (chk_i o1 ?_)))
          rw [o3]
          refine chk_i o8.1.1 (c2 o8 (by omega) (chk_i o1 (chk_i o1 ?_)))
          rw [o3, o9]
          have e4 : rowV D a 4 = E a 4 := by rw [hW.1 a hka]; rfl
          rw [← e4]
          refine chk_i o8.1.1 (c2 o8 (by omega) ?_)
          rw [o9]
          have e7 : rowV D a (4 + 1) = up E (k + 1) ((f * 10 + x) * 6 + 4) (rowV D a 4) a 7 := by rw [hW5.1 a hka]; rfl
          rw [← e7]
          exact ih (x + 1) _ _ (by omega) (by omega) (hW6.nx hl)
        | succ m' ih' =>
          intro w E hw w0 hW
          refine b60_19 (chk_i (by omega) (ite_i (fun c => chk_i o1 (chk_i o1 ?_)) fun c => absurd c (by omega)))
          rw [o3, o4]
          refine chk_i (by rw [o6]) (chk_i (by rw [o6]; exact ⟨by omega, show w < 4 by omega⟩) (chk_i o8.1.1 (c2 o8 (by omega) ?_)))
          rw [o9]
          have e : E (a + 1) w = rowV D a w := by rw [hW.1 (a + 1) (by omega)]; unfold rowV; rw [if_pos (by omega)]
          rw [e]
          exact ih' (w + 1) _ (by omega) (by omega) (hW.up (by omega) hl)
      exact b60_5 (chk_i (by omega) (chk_i (by omega) (ite_i (fun c => chk_i (by omega) (ite_i (fun _ => inn 4 0 E rfl (Int.le_refl _) hW) fun c2 => absurd c2 (by omega))) fun c => absurd c (by omega))))
  refine b60_0 (chk_i o1 ?_)
  rw [hlo]
  refine lp (to - lo).toNat lo none D (by omega) (Int.le_refl _) ⟨fun _ _ => rfl, fun y v a1 a2 => ?_⟩
  rw [if_neg (by omega)]
end KS
