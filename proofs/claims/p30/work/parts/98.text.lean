/-! ## the law writes a text -/
theorem qRn {n : Nat} (h : n < 1000) : qR (n : Int) := ⟨Int.le_trans (by decide) (Int.natCast_nonneg n), Int.lt_trans (Int.ofNat_lt.mpr h) (by decide)⟩
section LH
variable {S : (Nat → Int32) × Nat} {t : qT} {D D0 : qD} {Q : Int → qT → qD → Prop} {l1 l6 l8 l9 l12 : Int} {f : Nat}
set_option maxHeartbeats 4000000 in
theorem r98_168 {c0 : Int} (h12 : 0 ≤ l12 ∧ l12 ≤ 7) (hc : 0 ≤ c0 ∧ c0 + 3 * l12 ≤ 61) (cont : ∀ (n : Nat) (D : qD) (l5 k ad kp l13 : Int) (o14 o15 : Option qV), l5 = n → (n : Int) ≤ c0 + 3 * l12 → OPP (D 30) (D 28) (D 29) n f k ad kp → (∀ b, b ≠ 30 → D b = D0 b) → wp S 98 392 [some qx, some (qi l1), some (qs 28), some (qs 29), some (qs 30), some (qi l5), some (qi l6), some (qi f), some (qi l8), some (qi l9), some (qi ad), some (qi kp), some (qi l12), some (qi l13), o14, o15] [] t D Q) :
    ∀ (m : Nat) (k : Int) (n : Nat) (D : qD) (l5 ad kp : Int) (o14 o15 : Option qV), k + m = l12 → 0 ≤ k → l5 = n → (n : Int) ≤ c0 + 3 * k → OPP (D 30) (D 28) (D 29) n f k ad kp → (0 ≤ ad ∧ ad ≤ 9) → (0 ≤ kp ∧ kp ≤ 3) → (∀ b, b ≠ 30 → D b = D0 b) → wp S 98 168 [some qx, some (qi l1), some (qs 28), some (qs 29), some (qs 30), some (qi l5), some (qi l6), some (qi f), some (qi l8), some (qi l9), some (qi ad), some (qi kp), some (qi l12), some (qi k), o14, o15] [] t D Q := by
  intro m
  induction m with
  | zero =>
    intro k n D l5 ad kp o14 o15 hk h0 h5 hn hP had hkp hD
    apply lb98_168
    refine chk_i (by first | assumption | decide | omega) ?_
    refine chk_i (by first | assumption | decide | omega) ?_
    refine ite_i (fun h => absurd h (by first | decide | omega)) (fun _ => ?_)
    exact cont n D l5 k ad kp k o14 o15 h5 (by omega) hP hD
  | succ m ih =>
    intro k n D l5 ad kp o14 o15 hk h0 h5 hn hP had hkp hD
    have fr : ∀ R b, b ≠ 30 → upr D 30 R b = D0 b := fun R b hb => by rw [upr_n hb]; exact hD b hb
    have s343 : ∀ l14 l15 : Int, (0 ≤ l15 ∧ l15 < 2147483648) → wp S 98 343 [some qx, some (qi l1), some (qs 28), some (qs 29), some (qs 30), some (qi l5), some (qi l6), some (qi f), some (qi l8), some (qi l9), some (qi ad), some (qi kp), some (qi l12), some (qi k), some (qi l14), some (qi l15)] [] t D Q := by
      intro l14 l15 hl
      apply lb98_343
      refine chk_i (by first | assumption | decide | omega) ?_
      refine chk_i (by first | assumption | decide | omega) ?_
      refine chk_i (by first | assumption | decide | omega) ?_
      refine chk_i (by first | assumption | decide | omega) ?_
      refine chk_i (by first | assumption | decide | omega) ?_
      refine chk_i (by first | assumption | decide | omega) ?_
      simp only [up_eq, upr_s, upr_u]
      exact ih (k + 1) (n + 1 + 1 + 1) _ _ _ _ _ _ (by omega) (by omega) (by omega) (by omega) (by rw [upr_s, upr_n (by decide), upr_n (by decide)]; exact hP.s h5 rfl rfl (by omega) (by omega) (by omega)) had hkp (fr _)
    have s309 : ∀ l14 l15 : Int, qR l14 → (0 ≤ l15 ∧ l15 < 2147483648) → wp S 98 309 [some qx, some (qi l1), some (qs 28), some (qs 29), some (qs 30), some (qi l5), some (qi l6), some (qi f), some (qi l8), some (qi l9), some (qi ad), some (qi kp), some (qi l12), some (qi k), some (qi l14), some (qi l15)] [] t D Q := by
      intro l14 l15 hr hl
      apply lb98_309
      refine chk_i hr (ite_i (fun h => ?_) fun h => s343 l14 l15 hl)
      refine chk_i (by first | assumption | decide | omega) ?_
      refine chk_i (by first | assumption | decide | omega) ?_
      refine chk_i (by first | assumption | decide | omega) ?_
      simp only [up_eq, upr_s, upr_u]
      exact ih (k + 1) (n + 1 + 1) _ _ _ _ _ _ (by omega) (by omega) (by omega) (by omega) (by rw [upr_s, upr_n (by decide), upr_n (by decide)]; exact hP.u h5 rfl (by omega) (by omega)) had hkp (fr _)
    have s281 : ∀ l14 l15 : Int, qR l14 → (0 ≤ l15 ∧ l15 < 2147483648) → wp S 98 281 [some qx, some (qi l1), some (qs 28), some (qs 29), some (qs 30), some (qi l5), some (qi l6), some (qi f), some (qi l8), some (qi l9), some (qi ad), some (qi kp), some (qi l12), some (qi k), some (qi l14), some (qi l15)] [] t D Q := by
      intro l14 l15 hr hl
      apply lb98_281
      refine chk_i hr (ite_i (fun h => chk_i (by omega) (ite_i (fun h2 => chk_i (by omega) ?_) fun h2 => s309 l14 l15 hr hl)) fun h => s309 l14 l15 hr hl)
      simp only [up_eq]
      exact ih (k + 1) (n + 1) _ _ _ _ _ _ (by omega) (by omega) (by omega) (by omega) (by rw [upr_s, upr_n (by decide), upr_n (by decide)]; exact hP.bk h5 (by omega) h2) had (by omega) (fr _)
    have s252 : ∀ l14 l15 : Int, qR l14 → (0 ≤ l15 ∧ l15 < 2147483648) → wp S 98 252 [some qx, some (qi l1), some (qs 28), some (qs 29), some (qs 30), some (qi l5), some (qi l6), some (qi f), some (qi l8), some (qi l9), some (qi ad), some (qi kp), some (qi l12), some (qi k), some (qi l14), some (qi l15)] [] t D Q := by
      intro l14 l15 hr hl
      apply lb98_252
      refine chk_i hr (ite_i (fun h => chk_i (by omega) (ite_i (fun h2 => chk_i (by omega) ?_) fun h2 => s281 l14 l15 hr hl)) fun h => s281 l14 l15 hr hl)
      simp only [up_eq]
      exact ih (k + 1) (n + 1) _ _ _ _ _ _ (by omega) (by omega) (by omega) (by omega) (by rw [upr_s, upr_n (by decide), upr_n (by decide)]; exact hP.m h5 (by omega) h2) had (by omega) (fr _)
    have hv : 0 ≤ qusr l8 (2 * k + 5) ∧ qusr l8 (2 * k + 5) < 2147483648 := qusr_r (by omega)
    apply lb98_168
    refine chk_i (by first | assumption | decide | omega) ?_
    refine chk_i (by first | assumption | decide | omega) ?_
    refine ite_i (fun _ => ?_) (fun h => absurd (by first | rfl | decide | omega) h)
    refine r97 (by decide) fun x1 v0 v1 => ?_
    generalize qusr l8 (2 * k + 5) = v at hv
    refine chk_i (by omega) (ite_i (fun h => chk_i (by omega) (ite_i (fun h2 => chk_i (by omega) (chk_i hv (chk_i (by omega) (chk_i hv ?_)))) fun h2 => s252 x1 v (by omega) hv)) fun h => s252 x1 v (by omega) hv)
    simp only [up_eq, upr_s, upr_u]
    exact ih (k + 1) (n + 1 + 1) _ _ _ _ _ _ (by omega) (by omega) (by omega) (by omega) (by rw [upr_s, upr_n (by decide), upr_n (by decide)]; exact hP.plus h5 rfl (by omega) (by omega) (by omega)) (by omega) hkp (fr _)
set_option maxHeartbeats 4000000 in
theorem r98_436 {l10 l11 P c1 nf : Int} (hf : f < 3) (hP3 : 0 ≤ P ∧ P ≤ 3) (hc : 0 ≤ c1 ∧ c1 + 5 * P ≤ 62) (cont : ∀ (n : Nat) (D : qD) (l5 l13 : Int) (o14 o15 : Option qV), l5 = n → (n : Int) ≤ c1 + 5 * P → PDP (D 30) (D 28) (D 29) n f P → D 28 (4 + f) = P → D 28 0 = nf → (∀ b, b ≠ 28 → b ≠ 29 → b ≠ 30 → D b = D0 b) → wp S 98 66 [some qx, some (qi l1), some (qs 28), some (qs 29), some (qs 30), some (qi l5), some (qi l6), some (qi (f + 1)), some (qi l8), some (qi l9), some (qi l10), some (qi l11), some (qi l12), some (qi l13), o14, o15] [] t D Q) :
    ∀ (m : Nat) (p : Int) (n : Nat) (D : qD) (l5 : Int) (o14 o15 : Option qV), p + m = P → 0 ≤ p → l5 = n → (n : Int) ≤ c1 + 5 * p → PDP (D 30) (D 28) (D 29) n f p → D 28 (4 + f) = P → D 28 0 = nf → (∀ b, b ≠ 28 → b ≠ 29 → b ≠ 30 → D b = D0 b) → wp S 98 436 [some qx, some (qi l1), some (qs 28), some (qs 29), some (qs 30), some (qi l5), some (qi l6), some (qi f), some (qi l8), some (qi l9), some (qi l10), some (qi l11), some (qi l12), some (qi p), o14, o15] [] t D Q := by
  intro m
  induction m with
  | zero =>
    intro p n D l5 o14 o15 hk h0 h5 hn hP hB h00 hD
    have ep : p = P := by omega
    subst ep
    apply lb98_436
    rw [hB]
    refine chk_i (by first | assumption | decide | omega) ?_
    refine chk_i (by first | assumption | decide | omega) ?_
    refine chk_i (by first | assumption | decide | omega) ?_
    refine ite_i (fun h => absurd h (by first | decide | omega)) (fun _ => ?_)
    exact cont n D l5 p o14 o15 h5 (by omega) hP hB h00 hD
  | succ m ih =>
    intro p n D l5 o14 o15 hk h0 h5 hn hP hB h00 hD
    have hv : 0 ≤ qusr l9 (1 + 9 * p) ∧ qusr l9 (1 + 9 * p) < 2147483648 := qusr_r (by omega)
    have s485 : ∀ (v kd : Int) o15, (0 ≤ v ∧ v < 2147483648) → (0 ≤ kd ∧ kd ≤ 4) → wp S 98 485 [some qx, some (qi l1), some (qs 28), some (qs 29), some (qs 30), some (qi l5), some (qi l6), some (qi f), some (qi l8), some (qi l9), some (qi l10), some (qi l11), some (qi l12), some (qi p), some (qi v), o15] [(qi kd), (qi ((3 * f) + p)), (qs 29)] t D Q := by
      intro v kd o15 hv hkd
      apply lb98_485
      refine chk_i (by first | assumption | decide | omega) ?_
      apply lb98_486
      refine chk_i (by first | assumption | decide | omega) ?_
      refine chk_i (by first | assumption | decide | omega) ?_
      rw [up_eq _ 28, upr_n (show 29 ≠ 28 by decide), up_eq, upr_s, ui_s]
      refine r99 hkd fun c c1 c2 c3 => ?_
      have ha : 0 ≤ v / 7 % 6 ∧ v / 7 % 6 < 6 := by omega
      generalize v / 7 % 6 = a at ha
      have hb : 0 ≤ v / 42 % (10 - a) ∧ v / 42 % (10 - a) < 10 - a := ⟨Int.emod_nonneg _ (by omega), Int.emod_lt_of_pos _ (by omega)⟩
      generalize v / 42 % (10 - a) = b at hb
      have ho : 0 ≤ v / 11 % 5 ∧ v / 11 % 5 < 5 := by omega
      generalize v / 11 % 5 = o at ho
      have hl : 0 ≤ v / 5 % 10 ∧ v / 5 % 10 < 10 := by omega
      generalize v / 5 % 10 = l at hl
      refine chk_i (by omega) (chk_i (by omega) (chk_i (by omega) (chk_i (by omega) (chk_i (by omega) (chk_i (by omega) (chk_i (by omega) (chk_i (by omega) (chk_i (by omega) (chk_i (by omega) (chk_i (by omega) (chk_i (by omega) (chk_i (by omega) (chk_i (by omega) ?_)))))))))))))
      simp only [up_eq, upr_s, upr_u]
      rw [upr_n (show 28 ≠ 29 by decide), upr_n (show 30 ≠ 28 by decide), upr_n (show 30 ≠ 29 by decide)]
      have hpad := hP.pad (c := c) (kd := kd) (a := a) (b := a + b) (o := o) (l := l) (c3 := 48 + a + b) (i := 7 + 3 * f + p) (j := 3 * f + p) h5 rfl rfl rfl rfl hf rfl rfl (by omega) (by omega) c1 hkd.1 ⟨c2, c3⟩ (by omega) (by omega) (by omega) (by omega)
      refine ih (p + 1) (n + 1 + 1 + 1 + 1 + 1) _ _ _ _ (by omega) (by omega) (by omega) (by omega) ?_ ?_ ?_ fun b h1 h2 h3 => ?_
      · rw [upr_s, upr_n (show 28 ≠ 30 by decide), upr_s, upr_n (show 29 ≠ 30 by decide), upr_n (show 29 ≠ 28 by decide), upr_s]
        exact hpad
      · rw [upr_n (show 28 ≠ 30 by decide), upr_s, ui_n (by omega)]; exact hB
      · rw [upr_n (show 28 ≠ 30 by decide), upr_s, ui_n (by omega)]; exact h00
      · rw [upr_n h3, upr_n h1, upr_n h2]; exact hD b h1 h2 h3
    apply lb98_436
    rw [hB]
    refine chk_i (by first | assumption | decide | omega) ?_
    refine chk_i (by first | assumption | decide | omega) ?_
    refine chk_i (by first | assumption | decide | omega) ?_
    refine ite_i (fun _ => ?_) (fun h => absurd (by first | rfl | decide | omega) h)
    refine chk_i (by first | assumption | decide | omega) ?_
    refine chk_i (by first | assumption | decide | omega) ?_
    generalize qusr l9 (1 + 9 * p) = v at hv
    exact ite_i (fun h => s485 v 2 _ hv (by decide)) fun h => chk_i hv (s485 v (v % 7) _ hv (by omega))
/-- the loop over the functions -/
def HD (D : qD) (n f : Nat) : Prop := (f = 0 ∧ n = 0 ∧ ∀ i, 0 ≤ i → i < 9 → D 29 i = 0) ∨ ∃ g p, f = g + 1 ∧ PDP (D 30) (D 28) (D 29) n g p ∧ D 28 (4 + g) = p
set_option maxHeartbeats 4000000 in
theorem r98_66 {nf : Nat} {nfi mo mp w : Int} (ei : nfi = nf) {bd : Nat → Int} (hS : SB S) (hnf : 1 ≤ nf ∧ nf ≤ 3) (hm : (nf = 3 ∧ mo = 3 ∧ mp = 2) ∨ (nf = 2 ∧ mo = 4 ∧ mp = 3) ∨ (nf = 1 ∧ mo = 7 ∧ mp = 3)) (hw : w = 3 * mo + 5 * mp + 2) (hbd : ∀ f : Nat, f < nf → 0 ≤ bd f ∧ bd f + w ≤ 63 ∧ bd (f + 1) = bd f + w) (q : ∀ (n : Nat) (D' : qD) p, (n : Int) ≤ 62 → D' 28 0 = nfi → PDP (D' 30) (D' 28) (D' 29) n (nf - 1) p → D' 28 (4 + ((nf - 1 : Nat) : Int)) = p → (∀ b, b ≠ 28 → b ≠ 29 → b ≠ 30 → D' b = D0 b) → Q n t D') :
    ∀ (m f n : Nat) (D : qD) (l5 l7 : Int) (o8 o9 o10 o11 o12 o13 o14 o15 : Option qV), f + m = nf → l5 = n → l7 = f → HD D n f → (f ≠ 0 → (n : Int) + 1 ≤ bd f) → (n : Int) ≤ 62 → D 28 0 = nfi → (∀ b, b ≠ 28 → b ≠ 29 → b ≠ 30 → D b = D0 b) → wp S 98 66 [some qx, some (qi 0), some (qs 28), some (qs 29), some (qs 30), some (qi l5), some (qi l6), some (qi l7), o8, o9, o10, o11, o12, o13, o14, o15] [] t D Q := by
  intro m
  induction m with
  | zero =>
    intro f n D l5 l7 o8 o9 o10 o11 o12 o13 o14 o15 hf h5 h7 hH hn hn2 h0 hD
    have hqn : qR nfi := by omega
    have hq7 : qR l7 := by omega
    apply lb98_66
    rw [h0]
    refine chk_i (by first | assumption | decide | omega) ?_
    refine chk_i (by first | assumption | decide | omega) ?_
    refine ite_i (fun h => absurd h (by first | decide | omega)) (fun _ => ?_)
    rw [h5]
    rcases hH with ⟨a, -⟩ | ⟨g, p, a, b, c⟩
    · omega
    · have : g = nf - 1 := by omega
      subst this
      exact q n D p hn2 h0 b c hD
  | succ m ih =>
    intro f n D l5 l7 o8 o9 o10 o11 o12 o13 o14 o15 hf h5 h7 hH hn hn2 h0 hD
    have hfn : f < nf := by omega
    obtain ⟨b1, b2, b3⟩ := hbd f hfn
    have hf3 : f < 3 := by omega
    have hqn : qR nfi := by omega
    have hq7 : qR l7 := by omega
    -- the ops and the pads of this function
    have body : ∀ (n : Nat) (D : qD) (l5 x8 x9 : Int) o12 o13 o14 o15, l5 = n → (n : Int) ≤ bd f → OPP (D 30) (ui (D 28) (1 + f) l5) (D 29) n f 0 0 0 → D 28 0 = nfi → (∀ b, b ≠ 28 → b ≠ 29 → b ≠ 30 → D b = D0 b) → ∀ o10 o11, wp S 98 113 [some qx, some (qi 0), some (qs 28), some (qs 29), some (qs 30), some (qi l5), some (qi l6), some (qi f), some (qi x8), some (qi x9), o10, o11, o12, o13, o14, o15] [] t D Q := by
      intro n D l5 x8 x9 o12 o13 o14 o15 h5 hn hP h0 hD o10 o11
      have s160 : ∀ (a b : Int) o12 o13 o14 o15, (0 < a ∧ a ≤ mo + 1) → wp S 98 160 [some qx, some (qi 0), some (qs 28), some (qs 29), some (qs 30), some (qi l5), some (qi l6), some (qi f), some (qi x8), some (qi x9), some (qi 0), some (qi 0), o12, o13, o14, o15] [(qi a), (qi b)] t (upr D 28 (ui (D 28) (1 + f) l5)) Q := by
        intro a b o12 o13 o14 o15 ha
        refine lb98_160 (r97 (by omega) fun x v0 v1 => ?_)
        refine r98_168 (D0 := upr D 28 (ui (D 28) (1 + f) l5)) (c0 := bd f) (by omega) (by omega) (fun n2 D2 l5' k' ad' kp' l13' o14 o15 e5 en hP2 hD2 => ?_) x.toNat 0 n _ l5 0 0 _ _ (by omega) (Int.le_refl _) h5 (by omega) (by rw [upr_n (show 30 ≠ 28 by decide), upr_s, upr_n (show 29 ≠ 28 by decide)]; exact hP) (by decide) (by decide) (fun _ _ => rfl)
        have e28 : D2 28 0 = nfi := by rw [hD2 28 (by decide), upr_s, ui_n (by omega)]; exact h0
        have s429 : ∀ (a b : Int), (0 < a ∧ a ≤ mp + 1) → wp S 98 429 [some qx, some (qi 0), some (qs 28), some (qs 29), some (qs 30), some (qi (l5' + 1)), some (qi l6), some (qi f), some (qi x8), some (qi x9), some (qi ad'), some (qi kp'), some (qi x), some (qi l13'), o14, o15] [(qi a), (qi b), (qi (4 + f)), (qs 28)] t (upr D2 30 (ui (D2 30) l5' 59)) Q := by
          intro a b ha
          refine lb98_429 (r97 (by omega) fun P p0 p1 => chk_i (by omega) ?_)
          rw [up_eq]
          refine r98_436 (D0 := D0) (P := P) (c1 := bd f + 3 * mo + 1) (nf := nfi) hf3 (by omega) (by omega) (fun n3 D3 l5'' l13'' o14 o15 e5 en3 hP3 hB3 h03 hD3 => ?_) P.toNat 0 (n2 + 1) _ (l5' + 1) o14 o15 (by omega) (Int.le_refl _) (by omega) (by omega) ?_ ?_ ?_ ?_
          · exact ih (f + 1) n3 D3 l5'' (f + 1) _ _ _ _ _ _ _ _ (by omega) e5 (by omega) (Or.inr ⟨f, P, rfl, hP3, hB3⟩) (fun _ => by rw [b3]; omega) (by omega) h03 hD3
          · rw [upr_n (show 30 ≠ 28 by decide), upr_s, upr_s, upr_n (show 28 ≠ 30 by decide), upr_n (show 29 ≠ 28 by decide), upr_n (show 29 ≠ 30 by decide)]
            exact hP2.fin hf3 e5
          · rw [upr_s, ui_s]
          · rw [upr_s, ui_n (by omega), upr_n (by decide)]; exact e28
          · intro b h1 h2 h3
            rw [upr_n h1, upr_n h3, hD2 b h3, upr_n h1]; exact hD b h1 h2 h3
        apply lb98_392
        rw [up_eq, upr_n (show 28 ≠ 30 by decide), e28]
        refine chk_i (by omega) (chk_i hqn (ite_i (fun h => s429 3 _ (by omega)) fun h => s429 4 _ (by omega)))
      apply lb98_113
      rw [up_eq, upr_s, ui_n (show (0 : Int) ≠ 1 + f by omega), h0]
      exact chk_i (by omega) (chk_i hqn (ite_i (fun h => s160 4 _ _ _ _ _ (by omega)) fun h => chk_i hqn (ite_i (fun h2 => s160 5 _ _ _ _ _ (by omega)) fun h2 => s160 8 _ _ _ _ _ (by omega))))
    apply lb98_66
    rw [h0]
    refine chk_i (by first | assumption | decide | omega) ?_
    refine chk_i (by first | assumption | decide | omega) ?_
    refine ite_i (fun _ => ?_) (fun h => absurd (by first | rfl | decide | omega) h)
    refine r96 (by omega) hS fun x8 => r96 (by omega) hS fun x9 => chk_i hq7 (ite_i (fun hp => ?_) fun hp => ?_)
    · rcases hH with ⟨a, -⟩ | ⟨g, p, a, b, c⟩
      · omega
      · subst a
        subst h7
        refine chk_i (by omega) ?_
        rw [up_eq]
        refine body (n + 1) _ _ x8 x9 _ _ _ _ (by omega) (by have := hn (by omega); omega) ?_ (by rw [upr_n (by decide)]; exact h0) (fun b h1 h2 h3 => by rw [upr_n h3]; exact hD b h1 h2 h3) _ _
        rw [upr_s, upr_n (show 28 ≠ 30 by decide), upr_n (show 29 ≠ 30 by decide)]
        exact b.nx c h5 (by omega) (by omega) rfl
    · have ef : f = 0 := by omega
      subst h7
      subst ef
      rcases hH with ⟨-, a, b⟩ | ⟨g, p, a, -⟩
      · subst a
        refine body 0 D l5 x8 x9 _ _ _ _ h5 (by omega) ?_ h0 hD _ _
        exact OPP.z (by show ui (D 28) (1 + ((0 : Nat) : Int)) l5 1 = 0; rw [h5]; exact ui_s) b
      · omega
theorem r98_34 (hS : SB S) (q : ∀ (n nf : Nat) (D' : qD) p, (1 ≤ nf ∧ nf ≤ 3) → (n : Int) ≤ 62 → D' 28 0 = nf → PDP (D' 30) (D' 28) (D' 29) n (nf - 1) p → D' 28 (4 + ((nf - 1 : Nat) : Int)) = p → (∀ b, b ≠ 28 → b ≠ 29 → b ≠ 30 → D' b = D0 b) → Q n t D') : ∀ (m : Nat) (j : Int) (D : qD), j + m = 9 → 0 ≤ j → (∀ i, 0 ≤ i → i < j → D 29 i = 0) → (∀ b, b ≠ 28 → b ≠ 29 → b ≠ 30 → D b = D0 b) → wp S 98 34 [some qx, some (qi 0), some (qs 28), some (qs 29), some (qs 30), some (qi 0), some (qi l6), some (qi j), none, none, none, none, none, none, none, none] [] t D Q := by
  intro m
  induction m with
  | zero =>
    intro j D hj h0 h9 hD
    apply lb98_34
    refine chk_i (by first | assumption | decide | omega) ?_
    refine ite_i (fun h => absurd h (by first | decide | omega)) (fun _ => ?_)
    refine r97 (by decide) fun x x0 x1 => ?_
    rw [up_eq]
    obtain ⟨nf, hnf⟩ : ∃ nf : Nat, (nf : Int) = 1 + x := ⟨(1 + x).toNat, by omega⟩
    have fin : ∀ (mo mp w : Int) (bd : Nat → Int), (nf = 3 ∧ mo = 3 ∧ mp = 2 ∨ nf = 2 ∧ mo = 4 ∧ mp = 3 ∨ nf = 1 ∧ mo = 7 ∧ mp = 3) → w = 3 * mo + 5 * mp + 2 → (∀ f : Nat, f < nf → 0 ≤ bd f ∧ bd f + w ≤ 63 ∧ bd (f + 1) = bd f + w) → wp S 98 66 [some qx, some (qi 0), some (qs 28), some (qs 29), some (qs 30), some (qi 0), some (qi l6), some (qi 0), none, none, none, none, none, none, none, none] [] t (upr D 28 (ui (D 28) 0 (1 + x))) Q := by
      intro mo mp w bd h1 h2 h3
      exact r98_66 (D0 := D0) (nf := nf) (nfi := 1 + x) hnf.symm (mo := mo) (mp := mp) (w := w) (bd := bd) hS (by omega) h1 h2 h3 (fun n D' p a b c d e => q n nf D' p (by omega) a (b.trans hnf.symm) c d e) nf 0 0 _ 0 0 _ _ _ _ _ _ _ _ (by omega) rfl rfl (Or.inl ⟨rfl, rfl, fun i a b => by rw [upr_n (by decide)]; exact h9 i a (by omega)⟩) (fun h => absurd rfl h) (by decide) (by rw [upr_s, ui_s]) (fun b h1 h2 h3 => by rw [upr_n h1]; exact hD b h1 h2 h3)
    rcases (show nf = 3 ∨ nf = 2 ∨ nf = 1 by omega) with h | h | h
    · exact fin 3 2 21 (fun f => 21 * f) (Or.inl ⟨h, rfl, rfl⟩) rfl fun f hf => by show 0 ≤ 21 * (f : Int) ∧ 21 * (f : Int) + 21 ≤ 63 ∧ 21 * ((f + 1 : Nat) : Int) = 21 * (f : Int) + 21; omega
    · exact fin 4 3 29 (fun f => 29 * f) (Or.inr (Or.inl ⟨h, rfl, rfl⟩)) rfl fun f hf => by show 0 ≤ 29 * (f : Int) ∧ 29 * (f : Int) + 29 ≤ 63 ∧ 29 * ((f + 1 : Nat) : Int) = 29 * (f : Int) + 29; omega
    · exact fin 7 3 38 (fun f => 38 * f) (Or.inr (Or.inr ⟨h, rfl, rfl⟩)) rfl fun f hf => by show 0 ≤ 38 * (f : Int) ∧ 38 * (f : Int) + 38 ≤ 63 ∧ 38 * ((f + 1 : Nat) : Int) = 38 * (f : Int) + 38; omega
  | succ m ih =>
    intro j D hj h0 h9 hD
    apply lb98_34
    refine chk_i (by first | assumption | decide | omega) ?_
    refine ite_i (fun _ => ?_) (fun h => absurd (by first | rfl | decide | omega) h)
    refine chk_i (by first | assumption | decide | omega) ?_
    refine ih (j + 1) _ (by omega) (by omega) (fun i a b => ?_) (fun b h1 h2 h3 => by rw [up_eq, upr_n h2]; exact hD b h1 h2 h3)
    rw [up_eq, upr_s]
    by_cases c : i = j
    · rw [c, ui_s]
    · rw [ui_n c]; exact h9 i a (by omega)
theorem r98_13 (k : ∀ D', (∀ b, b ≠ 28 → D' b = D0 b) → wp S 98 34 [some qx, some (qi 0), some (qs 28), some (qs 29), some (qs 30), some (qi 0), some (qi l6), some (qi 0), none, none, none, none, none, none, none, none] [] t D' Q) : ∀ (m : Nat) (j : Int) (D : qD), j + m = 16 → 0 ≤ j → (∀ b, b ≠ 28 → D b = D0 b) → wp S 98 13 [some qx, some (qi 0), some (qs 28), some (qs 29), some (qs 30), some (qi 0), some (qi l6), some (qi j), none, none, none, none, none, none, none, none] [] t D Q := by
  intro m
  induction m with
  | zero =>
    intro j D hj h0 hD
    apply lb98_13
    refine chk_i (by first | assumption | decide | omega) ?_
    refine ite_i (fun h => absurd h (by first | decide | omega)) (fun _ => ?_)
    exact k D hD
  | succ m ih =>
    intro j D hj h0 hD
    apply lb98_13
    refine chk_i (by first | assumption | decide | omega) ?_
    refine ite_i (fun _ => ?_) (fun h => absurd (by first | rfl | decide | omega) h)
    refine chk_i (by first | assumption | decide | omega) ?_
    exact ih (j + 1) _ (by omega) (by omega) (fun b hb => by rw [up_eq, upr_n hb]; exact hD b hb)
theorem r98 (hS : SB S) (q : ∀ (n nf : Nat) (D' : qD) p, (1 ≤ nf ∧ nf ≤ 3) → (n : Int) ≤ 62 → D' 28 0 = nf → PDP (D' 30) (D' 28) (D' 29) n (nf - 1) p → D' 28 (4 + ((nf - 1 : Nat) : Int)) = p → (∀ b, b ≠ 28 → b ≠ 29 → b ≠ 30 → D' b = D b) → Q n t D') : wp S 98 0 [some qx, some (qi 0), some (qs 28), some (qs 29), some (qs 30), none, none, none, none, none, none, none, none, none, none, none] [] t D Q :=
  lb98_0 (r96 (by decide) hS fun x => r98_13 (D0 := D) (fun D' h => r98_34 (D0 := D) hS q 9 0 D' rfl (Int.le_refl _) (fun i a b => by omega) (fun b h1 _ _ => h b h1)) 16 0 D rfl (Int.le_refl _) (fun _ _ => rfl))
end LH
