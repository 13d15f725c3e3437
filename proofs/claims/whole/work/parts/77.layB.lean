section RT
variable {S : (Nat → Int32) × Nat} {t : qT} {D : qD} {Q : Int → qT → qD → Prop} {f : Int} {M : Nat}
/-- what laying a function leaves alone -/
def FRM (f : Int) (D E : qD) : Prop := (∀ b, b ≠ 28 → b ≠ 34 → b ≠ 35 → b ≠ 36 → b ≠ 41 → E b = D b) ∧ (∀ i, i ≠ 24 → E 28 i = D 28 i) ∧ (∀ i, ¬ (40 * f ≤ i ∧ i < 40 * f + 40) → E 34 i = D 34 i) ∧ (∀ i, ¬ (10 * f ≤ i ∧ i < 10 * f + 10) → E 35 i = D 35 i ∧ E 36 i = D 36 i)
def DNE (op : Int → Int) (f : Int) (M : Nat) (E : qD) (a : Int) : Prop := ∀ x, 0 ≤ x → x < a → ROWX op f M x (fun w => E 34 (40 * f + 4 * x + w)) (E 35 (10 * f + x)) (E 36 (10 * f + x))
theorem FRM.f41 {D E E' : qD} (h : FRM f D E) (k : F41 E E') : FRM f D E' := by
  obtain ⟨h1, h2, h3, h4⟩ := h
  obtain ⟨k1, k2⟩ := k
  refine ⟨fun b x1 x2 x3 x4 x5 => by rw [k1 b x1 x5]; exact h1 b x1 x2 x3 x4 x5, fun i hi => by rw [k2 i hi]; exact h2 i hi, fun i hi => by rw [k1 34 (by decide) (by decide)]; exact h3 i hi, fun i hi => ?_⟩
  rw [k1 35 (by decide) (by decide), k1 36 (by decide) (by decide)]; exact h4 i hi
theorem DNE.f41 {op : Int → Int} {a : Int} {E E' : qD} (h : DNE op f M E a) (k : F41 E E') : DNE op f M E' a := by
  intro x h1 h2
  have := h x h1 h2
  rw [k.1 34 (by decide) (by decide), k.1 35 (by decide) (by decide), k.1 36 (by decide) (by decide)]
  exact this
theorem c126_182 {a g l2 l3 : Int} {n : Nat} (hV : OV (D 39) f M) (ha : 0 ≤ a ∧ a < 10) (hn : n ≤ M) (hna : adN (D 39) f n ≤ a) (hst : n = M ∨ (D 39 (24 * f + 3 * n) = 43 ∧ a < adN (D 39) f (n + 1))) (hg : g = 0 ∨ g = 1) :
    ∀ (m : Nat) (w : Int) (E : qD), w + m = 4 → 0 ≤ w → FRM f D E → STn (D 39) f E n → DNE (D 39) f M E a → (g = 1 → cA (D 39) f n = a) → (g = 0 → cA (D 39) f n = if a = 0 then 0 else E 36 (10 * f + a - 1)) → (∀ x, 0 ≤ x → x < w → E 34 (40 * f + 4 * a + x) = (sR (D 39) f n).1 x) →
    (∀ E' o5 o6, FRM f D E' → STn (D 39) f E' n → DNE (D 39) f M E' (a + 1) → E' 36 (10 * f + a) = cA (D 39) f n → wp S 126 33 [some (qs 28), some (qi f), some (qi l2), some (qi l3), some (qi (a + 1)), o5, o6] [] t E' Q) →
    wp S 126 182 [some (qs 28), some (qi f), some (qi l2), some (qi l3), some (qi a), some (qi g), some (qi w)] [] t E Q := by
  have hf := hV.1
  intro m
  induction m with
  | zero =>
    intro w E hw h0 hF hS hD h1 h2 h3 q
    obtain rfl : w = 4 := by omega
    have fin : ∀ v : Int, v = cA (D 39) f n → ∀ o5 o6, wp S 126 33 [some (qs 28), some (qi f), some (qi l2), some (qi l3), some (qi (a + 1)), o5, o6] [] t (up (up E 35 (10 * f + a) (E 28 24)) 36 (10 * f + a) v) Q := fun v hv o5 o6 => by
      obtain ⟨f1, f2, f3, f4⟩ := hF
      refine q _ o5 o6 ⟨fun b x1 x2 x3 x4 x5 => ?_, fun i hi => ?_, fun i hi => ?_, fun i hi => ⟨?_, ?_⟩⟩ ⟨fun i x y => ?_, ?_⟩ (fun x x0 x1 => ?_) ?_
      · rw [up_eq, up_eq, upr_n x4, upr_n x3]; exact f1 b x1 x2 x3 x4 x5
      · rw [up_eq, up_eq, upr_n (by decide), upr_n (by decide)]; exact f2 i hi
      · rw [up_eq, up_eq, upr_n (by decide), upr_n (by decide)]; exact f3 i hi
      · rw [up_eq, up_eq, upr_n (by decide), upr_s, ui_n (by omega)]; exact (f4 i hi).1
      · rw [up_eq, up_eq, upr_s, ui_n (by omega), upr_n (by decide)]; exact (f4 i hi).2
      · rw [up_eq, up_eq, upr_n (by decide), upr_n (by decide)]; exact hS.1 i x y
      · rw [up_eq, up_eq, upr_n (by decide), upr_n (by decide)]; exact hS.2
      · rw [up_eq, up_eq, upr_s, upr_n (show (35 : Nat) ≠ 36 by decide), upr_s, upr_n (show (34 : Nat) ≠ 36 by decide), upr_n (show (34 : Nat) ≠ 35 by decide), upr_n (show (36 : Nat) ≠ 35 by decide)]
        by_cases c : x = a
        · subst c
          rw [ui_s, ui_s]
          exact ⟨n, hn, hna, hst, fun w y z => h3 w y (by omega), hS.2, hv⟩
        · rw [ui_n (by omega), ui_n (by omega)]
          exact hD x x0 (by omega)
      · rw [up_eq, upr_s, ui_s]; exact hv
    refine b126_182 (chk_i (by omega) (ite_i (fun c => absurd c (by decide)) fun _ => chk_i (by omega) (chk_i (by omega) (ite_i (fun c => chk_i (by omega) (ite_i (fun c2 => chk_i (by omega) ?_) fun c2 => chk_i (by omega) (chk_i (by omega) ?_))) fun c => chk_i (by omega) ?_))))
    · have := h2 c
      rw [if_pos c2] at this
      exact fin 0 this.symm _ _
    · have := h2 c
      rw [if_neg c2] at this
      refine fin _ ?_ _ _
      rw [up_eq, upr_n (by decide)]; exact this.symm
    · exact fin a (h1 (by omega)).symm _ _
  | succ m ih =>
    intro w E hw h0 hF hS hD h1 h2 h3 q
    refine b126_182 (chk_i (by omega) (ite_i (fun c => chk_i (by omega) (chk_i (by omega) ?_)) fun c => absurd c (by omega)))
    obtain ⟨f1, f2, f3, f4⟩ := hF
    refine ih (w + 1) _ (by omega) (by omega) ⟨fun b x1 x2 x3 x4 x5 => ?_, fun i hi => ?_, fun i hi => ?_, fun i hi => ?_⟩ ⟨fun i x y => ?_, ?_⟩ (fun x x0 x1 => ?_) h1 (fun z => ?_) (fun x x0 x1 => ?_) q
    · rw [up_eq, upr_n x2]; exact f1 b x1 x2 x3 x4 x5
    · rw [up_eq, upr_n (by decide)]; exact f2 i hi
    · rw [up_eq, upr_s, ui_n (by omega)]; exact f3 i hi
    · rw [up_eq, upr_n (by decide), upr_n (by decide)]; exact f4 i hi
    · rw [up_eq, upr_n (by decide)]; exact hS.1 i x y
    · rw [up_eq, upr_n (by decide)]; exact hS.2
    · rw [up_eq, upr_s, upr_n (show (35 : Nat) ≠ 34 by decide), upr_n (show (36 : Nat) ≠ 34 by decide)]
      obtain ⟨k, a1, a2, a3, a4, a5⟩ := hD x x0 x1
      exact ⟨k, a1, a2, a3, fun v y z => (ui_n (by omega)).trans (a4 v y z), a5⟩
    · rw [up_eq, upr_n (by decide)]; exact h2 z
    · rw [up_eq, upr_s]
      by_cases c2 : x = w
      · subst c2
        rw [ui_s]; exact hS.1 x x0 (by omega)
      · rw [ui_n (by omega)]; exact h3 x x0 (by omega)
theorem c125e {E : qD} {n : Nat} {l2 : Int} (e : l2 = n) (hV : OV (E 39) f M) (hn : n < M) (hS : STn (E 39) f E n) (q : ∀ E', F41 E E' → STn (E 39) f E' (n + 1) → Q 0 t E') : wp S 125 0 [some (qs 28), some (qi f), some (qi l2), none, none, none] [] t E Q := by
  subst e
  exact c125 hV hn hS q
theorem c126_43 {a : Int} (hV : OV (D 39) f M) (hM : D 37 f = M) (ha : 0 ≤ a ∧ a < 10) :
    ∀ (m n : Nat) (l2 l3 g : Int) (E : qD) (o6 : Option qV), l2 = n → l3 = adN (D 39) f n → n + m = M → (g = 0 ∨ g = 1) → adN (D 39) f n ≤ a → (adN (D 39) f n = a ∨ n = M ∨ (D 39 (24 * f + 3 * n) = 43 ∧ a ≤ adN (D 39) f (n + 1))) → FRM f D E → STn (D 39) f E n → DNE (D 39) f M E a →
    (g = 1 → cA (D 39) f n = a) → (g = 0 → cA (D 39) f n = if a = 0 then 0 else E 36 (10 * f + a - 1)) →
    (∀ (n' : Nat) (l2' l3' : Int) E' o5 o6, l2' = n' → l3' = adN (D 39) f n' → n' ≤ M → (n' = M ∨ (D 39 (24 * f + 3 * n') = 43 ∧ a < adN (D 39) f (n' + 1))) → adN (D 39) f n' ≤ a → FRM f D E' → STn (D 39) f E' n' → DNE (D 39) f M E' (a + 1) → E' 36 (10 * f + a) = cA (D 39) f n' → wp S 126 33 [some (qs 28), some (qi f), some (qi l2'), some (qi l3'), some (qi (a + 1)), o5, o6] [] t E' Q) →
    wp S 126 43 [some (qs 28), some (qi f), some (qi l2), some (qi l3), some (qi a), some (qi g), o6] [] t E Q := by
  have hf := hV.1
  have hM8 := hV.2.1
  intro m
  induction m with
  | zero =>
    intro n l2 l3 g E o6 e2 e3 hn hg hna hI hF hS hD h1 h2 q
    have e37 : E 37 = D 37 := hF.1 37 (by decide) (by decide) (by decide) (by decide) (by decide)
    refine b126_43 ?_
    rw [e37]
    have r1 : l2 = D 37 f := by omega
    have r2 : qR l2 := by omega
    refine chk_i hf (chk_i r2 (chk_i (by rw [← r1]; exact r2) (ite_i (fun c => absurd c (by omega)) fun _ => ?_)))
    exact c126_182 hV ha (by omega) hna (.inl (by omega)) hg 4 0 E rfl (Int.le_refl _) hF hS hD h1 h2 (fun x a b => absurd b (by omega)) fun E' o5 o6 k1 k2 k3 k4 => q n l2 l3 E' o5 o6 e2 e3 (by omega) (.inl (by omega)) hna k1 k2 k3 k4
  | succ m ih =>
    intro n l2 l3 g E o6 e2 e3 hn hg hna hI hF hS hD h1 h2 q
    have e37 : E 37 = D 37 := hF.1 37 (by decide) (by decide) (by decide) (by decide) (by decide)
    have e39 : E 39 = D 39 := hF.1 39 (by decide) (by decide) (by decide) (by decide) (by decide)
    have hv := hV.2.2 n (by omega)
    have hd0 := (hV.d n (by omega)).2
    have hd1 := (hV.d (n + 1) (by omega)).2
    have ea : adN (D 39) f (n + 1) = adN (D 39) f n + if D 39 (24 * f + 3 * n) = 43 then D 39 (24 * f + 3 * n + 1) else 0 := rfl
    have ec : cA (D 39) f (n + 1) = if D 39 (24 * f + 3 * n) = 43 then cA (D 39) f n else adN (D 39) f n := rfl
    have hvv := hv.1
    unfold opV at hvv
    have S1 : ∀ E', F41 E E' → STn (E 39) f E' (n + 1) → STn (D 39) f E' (n + 1) := fun E' _ h => by rw [← e39]; exact h
    have g36 : ∀ E', F41 E E' → E' 36 = E 36 := fun E' k => k.1 36 (by decide) (by decide)
    have g39 : ∀ E', F41 E E' → E' 39 = D 39 := fun E' k => by rw [k.1 39 (by decide) (by decide), e39]
    have r2 : qR l2 := by omega
    have r3 : qR (D 37 f) := by rw [hM]; omega
    have r4 : l2 < D 37 f := by omega
    rw [← e2] at ea ec hvv hI
    refine b126_43 ?_
    rw [e37, e39]
    refine chk_i hf (chk_i r2 (chk_i r3 (ite_i (fun c => ?_) fun c => absurd r4 c)))
    have r5 : 0 ≤ 24 * f + 3 * l2 ∧ 24 * f + 3 * l2 + 2 < 72 := by omega
    have r6 : qR (D 39 (24 * f + 3 * l2)) := by omega
    refine chk_i (by omega) (chk_i r6 (ite_i (fun c43 => ?_) fun c43 => ?_))
    · rw [if_pos c43] at ea ec
      have r7 : 1 ≤ D 39 (24 * f + 3 * l2 + 1) ∧ D 39 (24 * f + 3 * l2 + 1) ≤ 9 := by omega
      refine chk_i (by omega) (chk_i (by omega) (chk_i (by omega) (ite_i (fun c2 => ?_) fun c2 => ?_)))
      · exact c126_182 hV ha (by omega) hna (.inr ⟨by rw [← e2]; exact c43, by omega⟩) hg 4 0 E rfl (Int.le_refl _) hF hS hD h1 h2 (fun x a b => absurd b (by omega)) fun E' o5 o6 k1 k2 k3 k4 => q n l2 l3 E' o5 o6 e2 e3 (by omega) (.inr ⟨by rw [← e2]; exact c43, by omega⟩) hna k1 k2 k3 k4
      · have e : adN (D 39) f (n + 1) = a := by
          rcases hI with h | h | h
          · omega
          · omega
          · omega
        refine chk_i (by omega) (chk_i r6 (ite_i (fun _ => chk_i (by omega) ?_) fun z => absurd c43 z))
        refine c125e e2 (M := M) (by rw [e39]; exact hV) (by omega) (by rw [e39]; exact hS) fun E' k1 k2 => ?_
        have hE' := fun g' (hg' : g = g') => ih (n + 1) (l2 + 1) (l3 + D 39 (24 * f + 3 * l2 + 1)) g' E' o6 (by omega) (by omega) (by omega) (by omega) (by omega) (.inl e) (hF.f41 k1) (S1 E' k1 k2) (hD.f41 k1) (fun z => by rw [ec]; exact h1 (by omega)) (fun z => by rw [ec, g36 E' k1]; exact h2 (by omega)) q
        refine chk_i (by omega) (ite_i (fun g0 => ?_) fun g0 => ?_)
        · rw [g39 E' k1]
          exact chk_i (by omega) (chk_i r6 (ite_i (fun _ => hE' 0 g0) fun z => absurd c43 z))
        · exact hE' 1 (by omega)
    · rw [if_neg c43, Int.add_zero] at ea
      rw [if_neg c43] at ec
      have e : adN (D 39) f n = a := by
        rcases hI with h | h | h
        · exact h
        · omega
        · exact absurd h.1 c43
      refine chk_i (by omega) (chk_i (by omega) (ite_i (fun c2 => absurd c2 (by omega)) fun c2 => ?_))
      refine chk_i (by omega) (chk_i r6 (ite_i (fun z => absurd z c43) fun _ => ?_))
      refine c125e e2 (M := M) (by rw [e39]; exact hV) (by omega) (by rw [e39]; exact hS) fun E' k1 k2 => ?_
      have hE' := ih (n + 1) (l2 + 1) (l3 + 0) 1 E' o6 (by omega) (by omega) (by omega) (.inr rfl) (by omega) (.inl (by omega)) (hF.f41 k1) (S1 E' k1 k2) (hD.f41 k1) (fun z => by rw [ec]; exact e) (fun z => absurd z (by decide)) q
      refine chk_i (by omega) (ite_i (fun g0 => ?_) fun g0 => hE')
      rw [g39 E' k1]
      exact chk_i (by omega) (chk_i r6 (ite_i (fun z => absurd z c43) fun _ => hE'))
theorem c126_33 (hV : OV (D 39) f M) (hM : D 37 f = M) :
    ∀ (m : Nat) (a : Int) (n : Nat) (l2 l3 : Int) (E : qD) (o5 o6 : Option qV), l2 = n → l3 = adN (D 39) f n → a + m = 10 → 0 ≤ a → n ≤ M → adN (D 39) f n ≤ a → (adN (D 39) f n = a ∨ n = M ∨ (D 39 (24 * f + 3 * n) = 43 ∧ a ≤ adN (D 39) f (n + 1))) → FRM f D E → STn (D 39) f E n → DNE (D 39) f M E a →
    (cA (D 39) f n = if a = 0 then 0 else E 36 (10 * f + a - 1)) →
    (∀ E', FRM f D E' → DNE (D 39) f M E' 10 → Q 0 t E') →
    wp S 126 33 [some (qs 28), some (qi f), some (qi l2), some (qi l3), some (qi a), o5, o6] [] t E Q := by
  intro m
  induction m with
  | zero =>
    intro a n l2 l3 E o5 o6 e2 e3 hm h0 hn hna hI hF hS hD h2 q
    obtain rfl : a = 10 := by omega
    exact b126_33 (chk_i (by omega) (ite_i (fun c => absurd c (by decide)) fun _ => q E hF hD))
  | succ m ih =>
    intro a n l2 l3 E o5 o6 e2 e3 hm h0 hn hna hI hF hS hD h2 q
    refine b126_33 (chk_i (by omega) (ite_i (fun c => ?_) fun c => absurd c (by omega)))
    refine c126_43 hV hM ⟨h0, c⟩ (M - n) n l2 l3 0 E o6 e2 e3 (by omega) (.inl rfl) hna hI hF hS hD (fun z => absurd z (by decide)) (fun _ => h2) fun n' l2' l3' E' o5 o6 k8 k9 k1 k2 k3 k4 k5 k6 k7 => ?_
    refine ih (a + 1) n' l2' l3' E' o5 o6 k8 k9 (by omega) (by omega) k1 (by omega) ?_ k4 k5 k6 ?_ q
    · rcases k2 with h | h
      · exact .inr (.inl h)
      · exact .inr (.inr ⟨h.1, by omega⟩)
    · rw [if_neg (by omega), show 10 * f + (a + 1) - 1 = 10 * f + a by omega]; exact k7.symm
theorem c126 (hV : OV (D 39) f M) (hM : D 37 f = M) (q : ∀ E', FRM f D E' → DNE (D 39) f M E' 10 → Q 0 t E') : wp S 126 0 [some (qs 28), some (qi f), none, none, none, none, none] [] t D Q := by
  have lp : ∀ (m : Nat) (j : Int) (E : qD), j + m = 16 → 0 ≤ j → (∀ b, b ≠ 41 → E b = D b) → (∀ i, 0 ≤ i → i < j → E 41 i = -1) → wp S 126 2 [some (qs 28), some (qi f), some (qi j), none, none, none, none] [] t E Q := by
    intro m
    induction m with
    | zero =>
      intro j E hj h0 hE h41
      refine b126_2 (chk_i (by omega) (ite_i (fun c => absurd c (by omega)) fun _ => ?_))
      refine c126_33 hV hM 10 0 0 0 0 _ none none rfl rfl rfl (Int.le_refl _) (by omega) (Int.le_refl _) (.inl rfl) ⟨fun b x1 x2 x3 x4 x5 => ?_, fun i hi => ?_, fun i hi => ?_, fun i hi => ⟨?_, ?_⟩⟩ ⟨fun i a b => ?_, ?_⟩ (fun x a b => absurd b (by omega)) rfl q
      · rw [up_eq, upr_n x1]; exact hE b x5
      · rw [up_eq, upr_s, ui_n hi, hE 28 (by decide)]
      · rw [up_eq, upr_n (by decide), hE 34 (by decide)]
      · rw [up_eq, upr_n (by decide), hE 35 (by decide)]
      · rw [up_eq, upr_n (by decide), hE 36 (by decide)]
      · rw [up_eq, upr_n (by decide)]; exact h41 i a (by omega)
      · rw [up_eq, upr_s, ui_s]; rfl
    | succ m ih =>
      intro j E hj h0 hE h41
      refine b126_2 (chk_i (by omega) (ite_i (fun c => chk_i (by omega) (ih (j + 1) _ (by omega) (by omega) (fun b hb => ?_) fun i a b => ?_)) fun c => absurd c (by omega)))
      · rw [up_eq, upr_n hb]; exact hE b hb
      · rw [up_eq, upr_s]
        by_cases ci : i = j
        · rw [ci, ui_s]
        · rw [ui_n ci]; exact h41 i a (by omega)
  exact b126_0 (lp 16 0 D rfl (Int.le_refl _) (fun _ _ => rfl) fun i a b => absurd b (by omega))
end RT
