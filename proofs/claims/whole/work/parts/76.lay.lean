/-! ## the laying of a function's rows: what the ops say, and the reference's laying -/
def oSt (op : Int → Int) (x : Int) (s : (Int → Int) × Int) : (Int → Int) × Int :=
  if op x = 98 then (fun i => if 0 ≤ i ∧ i < 4 then s.1 (4 * s.2 + i) else if 4 * s.2 ≤ i ∧ i < 4 * s.2 + 4 then -1 else s.1 i, s.2 - 1)
  else if op x = 109 then (fun i => if 4 * (s.2 + 1) ≤ i ∧ i < 4 * (s.2 + 1) + 4 then s.1 (i - 4 * (s.2 + 1)) else s.1 i, s.2 + 1)
  else if op x = 115 then (ui s.1 (op (x + 1)) (op (x + 2)), s.2) else if op x = 117 then (ui s.1 (op (x + 1)) (-1), s.2) else s
def sR (op : Int → Int) (f : Int) : Nat → (Int → Int) × Int
  | 0 => (fun _ => -1, 0)
  | n + 1 => oSt op (24 * f + 3 * n) (sR op f n)
def cA (op : Int → Int) (f : Int) : Nat → Int
  | 0 => 0
  | n + 1 => if op (24 * f + 3 * n) = 43 then cA op f n else adN op f n
def ROWX (op : Int → Int) (f : Int) (M : Nat) (a : Int) (X : Int → Int) (y z : Int) : Prop := ∃ n : Nat, n ≤ M ∧ adN op f n ≤ a ∧ (n = M ∨ (op (24 * f + 3 * n) = 43 ∧ a < adN op f (n + 1))) ∧ (∀ w, 0 ≤ w → w < 4 → X w = (sR op f n).1 w) ∧ y = (sR op f n).2 ∧ z = cA op f n
def OV (op : Int → Int) (f : Int) (M : Nat) : Prop := (0 ≤ f ∧ f < 3) ∧ M ≤ 8 ∧ ∀ j : Nat, j < M → opV op (24 * f + 3 * j) ∧ adN op f (j + 1) ≤ 9 ∧ 0 ≤ dN op f (j + 1) ∧ dN op f (j + 1) ≤ 3
theorem sR_d {op : Int → Int} {f : Int} : ∀ n, (sR op f n).2 = dN op f n := by
  intro n
  induction n with
  | zero => rfl
  | succ n ih =>
    unfold sR dN oSt
    rw [← ih]
    by_cases h1 : op (24 * f + 3 * n) = 98
    · rw [if_pos h1, if_neg (by omega), if_pos h1]; rfl
    · rw [if_neg h1]
      by_cases h2 : op (24 * f + 3 * n) = 109
      · rw [if_pos h2, if_pos h2]
      · rw [if_neg h2, if_neg h2, if_neg h1, Int.add_zero]
        by_cases h3 : op (24 * f + 3 * n) = 115
        · rw [if_pos h3]
        · rw [if_neg h3]
          by_cases h4 : op (24 * f + 3 * n) = 117
          · rw [if_pos h4]
          · rw [if_neg h4]
theorem OV.d {op : Int → Int} {f : Int} {M : Nat} (h : OV op f M) : ∀ n, n ≤ M → (0 ≤ (sR op f n).2 ∧ (sR op f n).2 ≤ 3) ∧ 0 ≤ adN op f n ∧ adN op f n ≤ 9 := by
  intro n
  induction n with
  | zero => intro _; exact ⟨⟨Int.le_refl _, show (0 : Int) ≤ 3 by decide⟩, Int.le_refl _, show (0 : Int) ≤ 9 by decide⟩
  | succ n ih =>
    intro hn
    have h1 := h.2.2 n (by omega)
    have h2 := ih (by omega)
    rw [sR_d]
    refine ⟨h1.2.2, ?_, h1.2.1⟩
    have hv := h1.1
    unfold opV at hv
    unfold adN
    split <;> omega
theorem adN_m {op : Int → Int} {f : Int} {M : Nat} (h : OV op f M) : ∀ m n, n ≤ m → m ≤ M → adN op f n ≤ adN op f m := by
  intro m
  induction m with
  | zero => intro n h1 _; obtain rfl : n = 0 := by omega
            exact Int.le_refl _
  | succ m ih =>
    intro n h1 h2
    by_cases c : n = m + 1
    · rw [c]; exact Int.le_refl _
    · have := ih n (by omega) (by omega)
      have hv := (h.2.2 m (by omega)).1
      unfold opV at hv
      have e : adN op f (m + 1) = adN op f m + if op (24 * f + 3 * m) = 43 then op (24 * f + 3 * m + 1) else 0 := rfl
      rw [e]
      split <;> omega
/-- the row of an address is one -/
theorem ROWX.uni {op : Int → Int} {f a y z y' z' : Int} {M : Nat} {X X' : Int → Int} (hV : OV op f M) (h : ROWX op f M a X y z) (h' : ROWX op f M a X' y' z') : (∀ w, 0 ≤ w → w < 4 → X w = X' w) ∧ y = y' ∧ z = z' := by
  obtain ⟨n, a1, a2, a3, a4, a5, a6⟩ := h
  obtain ⟨m, b1, b2, b3, b4, b5, b6⟩ := h'
  have e : n = m := by
    by_cases c : n < m
    · have := adN_m hV m (n + 1) (by omega) b1
      omega
    · by_cases c2 : m < n
      · have := adN_m hV n (m + 1) (by omega) a1
        omega
      · omega
  subst e
  exact ⟨fun w x y => (a4 w x y).trans (b4 w x y).symm, a5.trans b5.symm, a6.trans b6.symm⟩
section RS
variable {S : (Nat → Int32) × Nat} {t : qT} {D : qD} {Q : Int → qT → qD → Prop} {f : Int} {M : Nat}
def STn (op : Int → Int) (f : Int) (E : qD) (n : Nat) : Prop := (∀ i, 0 ≤ i → i < 16 → E 41 i = (sR op f n).1 i) ∧ E 28 24 = (sR op f n).2
def F41 (E E' : qD) : Prop := (∀ b, b ≠ 28 → b ≠ 41 → E' b = E b) ∧ ∀ i, i ≠ 24 → E' 28 i = E 28 i
theorem c125_125 {E0 : qD} {d n op : Int} {R : Int → Int} (hd : E0 28 24 = d) (h0 : 1 ≤ d ∧ d ≤ 3) (o3 o4 : Int) : ∀ (m : Nat) (j : Int) (E : qD), j + m = 4 → 0 ≤ j → (∀ b, b ≠ 41 → E b = E0 b) → (∀ i, 0 ≤ i → i < 16 → E 41 i = if 4 * d ≤ i ∧ i < 4 * d + j then R (i - 4 * d) else R i) →
    (∀ E', (∀ b, b ≠ 41 → E' b = E0 b) → (∀ i, 0 ≤ i → i < 16 → E' 41 i = if 4 * d ≤ i ∧ i < 4 * d + 4 then R (i - 4 * d) else R i) → Q 0 t E') → wp S 125 125 [some (qs 28), some (qi n), some (qi op), some (qi o3), some (qi o4), some (qi j)] [] t E Q := by
  intro m
  induction m with
  | zero =>
    intro j E hj h1 hE hR q
    obtain rfl : j = 4 := by omega
    exact b125_125 (chk_i (by omega) (ite_i (fun c => absurd c (by decide)) fun _ => q E hE hR))
  | succ m ih =>
    intro j E hj h1 hE hR q
    have e : E 28 24 = d := by rw [hE 28 (by decide), hd]
    refine b125_125 ?_
    rw [e]
    refine chk_i (by omega) (ite_i (fun c => chk_i (by omega) (chk_i (by omega) ?_)) fun c => absurd c (by omega))
    refine ih (j + 1) _ (by omega) (by omega) (fun b hb => ?_) (fun i a b => ?_) q
    · rw [up_eq, upr_n hb]; exact hE b hb
    · rw [up_eq, upr_s]
      have hj := hR j h1 (by omega)
      rw [if_neg (by omega)] at hj
      by_cases ci : i = 4 * d + j
      · subst ci
        rw [ui_s, if_pos (by omega), hj, show 4 * d + j - 4 * d = j by omega]
      · rw [ui_n ci, hR i a b]
        by_cases c2 : 4 * d ≤ i ∧ i < 4 * d + j
        · rw [if_pos c2, if_pos (by omega)]
        · rw [if_neg c2, if_neg (by omega)]
theorem c125_164 {E0 : qD} {d n op : Int} {R : Int → Int} (hd : E0 28 24 = d) (h0 : 1 ≤ d ∧ d ≤ 3) (o3 o4 : Int) : ∀ (m : Nat) (j : Int) (E : qD), j + m = 4 → 0 ≤ j → (∀ b, b ≠ 41 → E b = E0 b) → (∀ i, 0 ≤ i → i < 16 → E 41 i = if 0 ≤ i ∧ i < j then R (4 * d + i) else if 4 * d ≤ i ∧ i < 4 * d + j then -1 else R i) →
    (∀ E', (∀ b, b ≠ 41 → b ≠ 28 → E' b = E0 b) → (∀ i, i ≠ 24 → E' 28 i = E0 28 i) → E' 28 24 = d - 1 → (∀ i, 0 ≤ i → i < 16 → E' 41 i = if 0 ≤ i ∧ i < 4 then R (4 * d + i) else if 4 * d ≤ i ∧ i < 4 * d + 4 then -1 else R i) → Q 0 t E') → wp S 125 164 [some (qs 28), some (qi n), some (qi op), some (qi o3), some (qi o4), some (qi j)] [] t E Q := by
  intro m
  induction m with
  | zero =>
    intro j E hj h1 hE hR q
    obtain rfl : j = 4 := by omega
    have e : E 28 24 = d := by rw [hE 28 (by decide), hd]
    refine b125_164 ?_
    rw [e]
    refine chk_i (by omega) (ite_i (fun c => absurd c (by decide)) fun _ => q _ (fun b hb h28 => ?_) (fun i hi => ?_) ?_ fun i a b => ?_)
    · rw [up_eq, upr_n h28]; exact hE b hb
    · rw [up_eq, upr_s, ui_n hi, hE 28 (by decide)]
    · rw [up_eq, upr_s, ui_s]
    · rw [up_eq, upr_n (by decide)]; exact hR i a b
  | succ m ih =>
    intro j E hj h1 hE hR q
    have e : E 28 24 = d := by rw [hE 28 (by decide), hd]
    have e2 : ∀ v, up E 41 j v 28 24 = d := fun v => by rw [up_eq, upr_n (by decide), e]
    refine b125_164 ?_
    rw [e2, e]
    refine chk_i (by omega) (ite_i (fun c => chk_i (by omega) (chk_i (by omega) (chk_i (by omega) ?_))) fun c => absurd c (by omega))
    refine ih (j + 1) _ (by omega) (by omega) (fun b hb => ?_) (fun i a b => ?_) q
    · rw [up_eq, up_eq, upr_n hb, upr_n hb]; exact hE b hb
    · rw [up_eq, up_eq, upr_s, upr_s]
      have hj := hR (4 * d + j) (by omega) (by omega)
      rw [if_neg (by omega), if_neg (by omega)] at hj
      by_cases ci : i = 4 * d + j
      · rw [ci, ui_s, if_neg (by omega), if_pos (by omega)]
      · rw [ui_n ci]
        by_cases cj : i = j
        · subst cj
          rw [ui_s, hj, if_pos (by omega)]
        · rw [ui_n cj, hR i a b]
          by_cases c1 : 0 ≤ i ∧ i < j
          · rw [if_pos c1, if_pos (by omega)]
          · have r1 : ¬ (0 ≤ i ∧ i < j + 1) := by omega
            rw [if_neg c1, if_neg r1]
            by_cases c2 : 4 * d ≤ i ∧ i < 4 * d + j
            · rw [if_pos c2, if_pos (by omega)]
            · rw [if_neg c2, if_neg (by omega)]
theorem c125 {E : qD} {n : Nat} (hV : OV (E 39) f M) (hn : n < M) (hS : STn (E 39) f E n) (q : ∀ E', F41 E E' → STn (E 39) f E' (n + 1) → Q 0 t E') : wp S 125 0 [some (qs 28), some (qi f), some (qi n), none, none, none] [] t E Q := by
  have hv := (hV.2.2 n hn).1
  have hd := (hV.d n (by omega)).1
  have hd2 := (hV.d (n + 1) (by omega)).1
  have hf := hV.1
  have hM := hV.2.1
  obtain ⟨s1, s2⟩ := hS
  have eS : sR (E 39) f (n + 1) = oSt (E 39) (24 * f + 3 * n) (sR (E 39) f n) := rfl
  unfold STn at q
  rw [eS] at q hd2
  generalize sR (E 39) f n = R at s1 s2 q hd hd2
  generalize hx : 24 * f + 3 * (n : Int) = x at hv q hd2
  unfold opV at hv
  unfold oSt at q hd2
  refine b125_0 ?_
  rw [hx]
  refine chk_i (by omega) (chk_i (by omega) (chk_i (by omega) (ite_i (fun c => ?_) fun c => ite_i (fun c2 => ?_) fun c2 => ite_i (fun c3 => chk_i (by omega) (chk_i (by omega) ?_)) fun c3 => ite_i (fun c4 => chk_i (by omega) ?_) fun c4 => ?_)))
  · rw [if_pos c] at q hd2
    have hd2 : 0 ≤ R.2 - 1 ∧ R.2 - 1 ≤ 3 := hd2
    refine c125_164 (R := R.1) (d := R.2) s2 (by omega) _ _ 4 0 E rfl (Int.le_refl _) (fun _ _ => rfl) (fun i a b => ?_) fun E' h1 h2 h3 h4 => q E' ⟨fun b x y => h1 b y x, h2⟩ ⟨h4, h3⟩
    rw [if_neg (by omega), if_neg (by omega)]; exact s1 i a b
  · rw [if_neg c, if_pos c2] at q hd2
    have hd2 : 0 ≤ R.2 + 1 ∧ R.2 + 1 ≤ 3 := hd2
    refine c125_125 (R := R.1) (d := R.2 + 1) (E0 := up E 28 24 (E 28 24 + 1)) (by rw [up_eq, upr_s, ui_s, s2]) (by omega) _ _ 4 0 _ rfl (Int.le_refl _) (fun _ _ => rfl) (fun i a b => ?_) fun E' h1 h2 => q E' ⟨fun b x y => ?_, fun i hi => ?_⟩ ⟨h2, ?_⟩
    · rw [if_neg (by omega), up_eq, upr_n (by decide)]; exact s1 i a b
    · rw [h1 b y, up_eq, upr_n x]
    · rw [h1 28 (by decide), up_eq, upr_s, ui_n hi]
    · rw [h1 28 (by decide), up_eq, upr_s, ui_s, s2]
  · rw [if_neg c, if_neg c2, if_pos c3] at q
    refine q _ ⟨fun b x y => by rw [up_eq, upr_n y], fun i hi => by rw [up_eq, upr_n (by decide)]⟩ ⟨fun i a b => ?_, by rw [up_eq, upr_n (by decide)]; exact s2⟩
    rw [up_eq, upr_s]
    by_cases ci : i = E 39 (x + 1)
    · rw [ci, ui_s]; exact ui_s.symm
    · rw [ui_n ci]; exact (s1 i a b).trans (ui_n ci).symm
  · rw [if_neg c, if_neg c2, if_neg c3, if_pos c4] at q
    refine q _ ⟨fun b x y => by rw [up_eq, upr_n y], fun i hi => by rw [up_eq, upr_n (by decide)]⟩ ⟨fun i a b => ?_, by rw [up_eq, upr_n (by decide)]; exact s2⟩
    rw [up_eq, upr_s]
    by_cases ci : i = E 39 (x + 1)
    · rw [ci, ui_s]; exact ui_s.symm
    · rw [ui_n ci]; exact (s1 i a b).trans (ui_n ci).symm
  · rw [if_neg c, if_neg c2, if_neg c3, if_neg c4] at q
    exact q E ⟨fun _ _ _ => rfl, fun _ _ => rfl⟩ ⟨s1, s2⟩
end RS
