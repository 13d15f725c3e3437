/-! ## a row replayed from the letters -/
section LR
variable {S : (Nat → Int32) × Nat} {t : qT} {D : qD} {Q : Int → qT → qD → Prop} {E D0 : qD} {f ar kp : Nat} {a : Int}
/-- what the walk holds before op n -/
def SW (E : qD) (f : Nat) (D0 D : qD) (ar kp : Nat) (n : Nat) : Prop :=
  (∀ b, b ≠ ar → b ≠ kp → D b = D0 b) ∧ (∀ w, 0 ≤ w → w < 4 → D ar w = (sR (E 39) f n).1 w) ∧ D ar 4 = (sR (E 39) f n).2 ∧ D ar 5 = cA (E 39) f n ∧ ∀ i, 0 ≤ i → i < 4 * (sR (E 39) f n).2 → D kp i = (sR (E 39) f n).1 (4 + i)
theorem r101_9 {fi : Int} (hA : (t.1 ar).1 = 10 ∧ (t.1 ar).2 = 6) (hb : 0 ≤ 1 + fi ∧ 1 + fi < 16) : ∀ (m : Nat) (j : Int) (D : qD), j + m = 6 → 0 ≤ j → (∀ b, b ≠ ar → D b = D0 b) → (∀ i, 0 ≤ i → i < j → D ar i = if i < 4 then -1 else 0) → (∀ D', (∀ b, b ≠ ar → D' b = D0 b) → (∀ i, 0 ≤ i → i < 6 → D' ar i = if i < 4 then -1 else 0) → wp S 101 48 [some (qs 28), some (qs 30), some (qi fi), some (qi a), some (qr ar), some (qr kp), some (qi (D' 28 (1 + fi))), some (qi 0), none, none] [] t D' Q) → wp S 101 9 [some (qs 28), some (qs 30), some (qi fi), some (qi a), some (qr ar), some (qr kp), some (qi j), none, none, none] [] t D Q := by
  intro m
  induction m with
  | zero =>
    intro j D hj h0 hD hi q
    exact lb101_9 (chk_i (by omega) (ite_i (fun h => absurd h (by omega)) fun _ => chk_i hb (q D hD fun i x y => hi i x (by omega))))
  | succ m ih =>
    intro j D hj h0 hD hi q
    have step : ∀ v, (v = if j < 4 then (-1 : Int) else 0) → wp S 101 9 [some (qs 28), some (qs 30), some (qi fi), some (qi a), some (qr ar), some (qr kp), some (qi (j + 1)), none, none, none] [] t (up D ar j v) Q := by
      intro v hv
      refine ih (j + 1) _ (by omega) (by omega) (fun b hb => by rw [up_eq, upr_n hb]; exact hD b hb) (fun i x y => ?_) q
      rw [up_eq, upr_s]
      by_cases c : i = j
      · rw [c, ui_s]; exact hv
      · rw [ui_n c]; exact hi i x (by omega)
    refine lb101_9 (chk_i (by omega) (ite_i (fun h => chk_i (by omega) (ite_i (fun h4 => chk_i hA.1 (chk_i (by omega) (step _ (by rw [if_pos h4])))) fun h4 => chk_i hA.1 (chk_i (by omega) (step _ (by rw [if_neg h4]))))) fun h => absurd (show j < 6 by omega) h))
theorem r101_121 {fi l6 l7 l8 d : Int} (hA : (t.1 ar).1 = 10 ∧ (t.1 ar).2 = 6) (hK : (t.1 kp).1 = 10 ∧ (t.1 kp).2 = 16) (hne : ar ≠ kp) (hd : D0 ar 4 = d) (h2 : 0 ≤ d ∧ d ≤ 2) : ∀ (m : Nat) (j : Int) (D : qD), j + m = 4 → 0 ≤ j → (∀ b, b ≠ kp → D b = D0 b) → (∀ i, D kp i = if 4 * d ≤ i ∧ i < 4 * d + j then D0 ar (i - 4 * d) else D0 kp i) → (∀ D' o9, (∀ b, b ≠ kp → b ≠ ar → D' b = D0 b) → (∀ i, D' kp i = if 4 * d ≤ i ∧ i < 4 * d + 4 then D0 ar (i - 4 * d) else D0 kp i) → (∀ i, i ≠ 4 → D' ar i = D0 ar i) → D' ar 4 = d + 1 → wp S 101 48 [some (qs 28), some (qs 30), some (qi fi), some (qi a), some (qr ar), some (qr kp), some (qi l6), some (qi l7), some (qi l8), o9] [] t D' Q) → wp S 101 121 [some (qs 28), some (qs 30), some (qi fi), some (qi a), some (qr ar), some (qr kp), some (qi l6), some (qi l7), some (qi l8), some (qi j)] [] t D Q := by
  intro m
  induction m with
  | zero =>
    intro j D hj h0 hD hi q
    have e4 : D ar 4 = d := by rw [hD ar hne]; exact hd
    refine lb101_121 (chk_i (by omega) (ite_i (fun h => absurd h (by omega)) fun _ => chk_i hA.1 (chk_i (by omega) (chk_i hA.1 (chk_i (by omega) ?_)))))
    refine q _ _ (fun b h1 h2 => by rw [up_eq, upr_n h2]; exact hD b h1) (fun i => ?_) (fun i hi4 => by rw [up_eq, upr_s, ui_n hi4, hD ar hne]) (by rw [up_eq, upr_s, ui_s, e4])
    rw [up_eq, upr_n (fun z => hne z.symm), hi i, show j = 4 by omega]
  | succ m ih =>
    intro j D hj h0 hD hi q
    have e4 : D ar 4 = d := by rw [hD ar hne]; exact hd
    refine lb101_121 (chk_i (by omega) (ite_i (fun h => chk_i hA.1 (chk_i (by omega) (chk_i hA.1 (chk_i (by omega) (chk_i hK.1 (chk_i (by omega) ?_)))))) fun h => absurd (show j < 4 by omega) h))
    refine ih (j + 1) _ (by omega) (by omega) (fun b hb => by rw [up_eq, upr_n hb]; exact hD b hb) (fun i => ?_) q
    rw [up_eq, upr_s, e4]
    by_cases c : i = 4 * d + j
    · rw [c, ui_s, if_pos (by omega), hD ar hne, show 4 * d + j - 4 * d = j by omega]
    · rw [ui_n c, hi i]
      by_cases c2 : 4 * d ≤ i ∧ i < 4 * d + j
      · rw [if_pos c2, if_pos (by omega)]
      · rw [if_neg c2, if_neg (by omega)]
theorem r101_179 {fi l6 l7 l8 d : Int} (hA : (t.1 ar).1 = 10 ∧ (t.1 ar).2 = 6) (hK : (t.1 kp).1 = 10 ∧ (t.1 kp).2 = 16) (hne : ar ≠ kp) (hd : D0 ar 4 = d) (h2 : 0 ≤ d ∧ d ≤ 2) : ∀ (m : Nat) (j : Int) (D : qD), j + m = 4 → 0 ≤ j → (∀ b, b ≠ ar → D b = D0 b) → (∀ i, D ar i = if 0 ≤ i ∧ i < j then D0 kp (4 * d + i) else D0 ar i) → (∀ D' o9, (∀ b, b ≠ ar → D' b = D0 b) → (∀ i, D' ar i = if 0 ≤ i ∧ i < 4 then D0 kp (4 * d + i) else D0 ar i) → wp S 101 48 [some (qs 28), some (qs 30), some (qi fi), some (qi a), some (qr ar), some (qr kp), some (qi l6), some (qi l7), some (qi l8), o9] [] t D' Q) → wp S 101 179 [some (qs 28), some (qs 30), some (qi fi), some (qi a), some (qr ar), some (qr kp), some (qi l6), some (qi l7), some (qi l8), some (qi j)] [] t D Q := by
  intro m
  induction m with
  | zero =>
    intro j D hj h0 hD hi q
    refine lb101_179 (chk_i (by omega) (ite_i (fun h => absurd h (by omega)) fun _ => q _ _ hD fun i => ?_))
    rw [hi i, show j = 4 by omega]
  | succ m ih =>
    intro j D hj h0 hD hi q
    have e4 : D ar 4 = d := by rw [hi 4, if_neg (by omega)]; exact hd
    refine lb101_179 (chk_i (by omega) (ite_i (fun h => chk_i hA.1 (chk_i (by omega) (chk_i hK.1 (chk_i (by omega) (chk_i hA.1 (chk_i (by omega) ?_)))))) fun h => absurd (show j < 4 by omega) h))
    refine ih (j + 1) _ (by omega) (by omega) (fun b hb => by rw [up_eq, upr_n hb]; exact hD b hb) (fun i => ?_) q
    rw [up_eq, upr_s, e4]
    by_cases c : i = j
    · rw [c, ui_s, if_pos (by omega), hD kp (fun z => hne z.symm)]
    · rw [ui_n c, hi i]
      by_cases c2 : 0 ≤ i ∧ i < j
      · rw [if_pos c2, if_pos (by omega)]
      · rw [if_neg c2, if_neg (by omega)]
set_option maxHeartbeats 8000000 in
theorem r101_48 (hB : BK (D0 28) (D0 30) E f) (ha : 0 ≤ a ∧ a ≤ 9) (hA : (t.1 ar).1 = 10 ∧ (t.1 ar).2 = 6) (hK : (t.1 kp).1 = 10 ∧ (t.1 kp).2 = 16) (hne : ar ≠ kp) (h31 : 31 ≤ ar ∧ 31 ≤ kp) : ∀ (m n : Nat) (D : qD) (o8 o9 : Option qV) (l6 l7 : Int), n + m = (E 37 f).toNat → l6 = fPos (E 37) (E 38) (E 39) f + oLen (E 39) f n → l7 = adN (E 39) f n → adN (E 39) f n ≤ a → SW E f D0 D ar kp n → (∀ (n' : Nat) D', n' ≤ (E 37 f).toNat → adN (E 39) f n' ≤ a → (n' = (E 37 f).toNat ∨ (E 39 (24 * f + 3 * n') = 43 ∧ a < adN (E 39) f (n' + 1))) → SW E f D0 D' ar kp n' → Q 0 t D') → wp S 101 48 [some (qs 28), some (qs 30), some (qi f), some (qi a), some (qr ar), some (qr kp), some (qi l6), some (qi l7), o8, o9] [] t D Q := by
  have hV := hB.ov
  have hA1 := hA.1
  have hK1 := hK.1
  intro m
  induction m with
  | zero =>
    intro n D o8 o9 l6 l7 hn e6 e7 had hS q
    have hn : n = (E 37 f).toNat := by omega
    have d30 : D 30 = D0 30 := hS.1 30 (by omega) (by omega)
    have h0 := oLe (E 39) f (E 37 f).toNat 0 (Nat.zero_le _)
    have e0 : oLen (E 39) f 0 = 0 := rfl
    have g := hB.2.1.2.2.1
    have hb := hB.2.2.2.1
    have hp := hB.2.1.1
    rw [← hn] at g
    rw [← hn] at hb h0
    have g0 : D 30 l6 = 59 := by rw [d30, e6]; exact g
    apply lb101_48
    rw [g0]
    exact chk_i (by omega) (chk_i (by omega) (ite_i (fun _ => q n D (by omega) had (Or.inl hn) hS) fun h => absurd rfl h))
  | succ m ih =>
    intro n D o8 o9 l6 l7 hn e6 e7 had hS q
    have hnM : n < (E 37 f).toNat := by omega
    have hd := hV.d n (by omega)
    have hd1 := hV.d (n + 1) (by omega)
    obtain ⟨p, c, e1, e2, e3, e4, e5, e8⟩ := hB.op hnM
    have e6 : l6 = p := e6.trans e1
    subst e6
    have d30 : D 30 = D0 30 := hS.1 30 (by omega) (by omega)
    have ea : adN (E 39) f (n + 1) = adN (E 39) f n + if E 39 (24 * f + 3 * n) = 43 then E 39 (24 * f + 3 * n + 1) else 0 := rfl
    have ec : cA (E 39) f (n + 1) = if E 39 (24 * f + 3 * n) = 43 then cA (E 39) f n else adN (E 39) f n := rfl
    have eR : sR (E 39) f (n + 1) = oSt (E 39) (24 * f + 3 * n) (sR (E 39) f n) := rfl
    unfold oSt at eR
    rw [e2] at ea ec eR
    obtain ⟨s1, s2, s3, s4, s5⟩ := hS
    have g0 : D 30 l6 = c := by rw [d30]; exact e3
    apply lb101_48
    rw [g0]
    rcases e8 with ⟨rfl, k1, k2⟩ | ⟨rfl, k1, k2, k3, k4⟩ | ⟨rfl, k1, k2⟩ | rfl | rfl
    · have g1 : D 30 (l6 + 1) = 48 + E 39 (24 * f + 3 * n + 1) := by rw [d30]; exact k1
      rw [if_pos rfl] at ea ec
      rw [if_neg (by decide), if_neg (by decide), if_neg (by decide), if_neg (by decide)] at eR
      have z : zDig 43 = 1 := rfl
      rw [g1]
      refine chk_i (by first | assumption | decide | omega) ?_
      refine chk_i (by first | assumption | decide | omega) ?_
      refine ite_i (fun h => absurd h (by first | decide | omega)) (fun _ => ?_)
      refine chk_i (by first | assumption | decide | omega) ?_
      refine chk_i (by first | assumption | decide | omega) ?_
      refine ite_i (fun _ => ?_) (fun h => absurd (by first | rfl | decide | omega) h)
      refine chk_i (by first | assumption | decide | omega) ?_
      refine chk_i (by first | assumption | decide | omega) ?_
      refine chk_i (by first | assumption | decide | omega) ?_
      refine ite_i (fun hl => ?_) fun hl => ?_
      · exact q n D (by omega) had (Or.inr ⟨e2, by omega⟩) ⟨s1, s2, s3, s4, s5⟩
      · refine chk_i (by first | assumption | decide | omega) ?_
        refine ite_i (fun _ => ?_) (fun h => absurd (by first | rfl | decide | omega) h)
        refine ih (n + 1) D _ _ _ _ (by omega) (by omega) (by omega) (by omega) ?_ q
        unfold SW
        rw [eR, ec]
        exact ⟨s1, s2, s3, s4, s5⟩
    · have g1 : D 30 (l6 + 1) = 48 + E 39 (24 * f + 3 * n + 1) := by rw [d30]; exact k1
      have g2 : D 30 (l6 + 1 + 1) = 48 + E 39 (24 * f + 3 * n + 2) := by rw [d30, show l6 + 1 + 1 = l6 + 2 by omega]; exact k2
      rw [if_neg (by decide)] at ea ec
      rw [if_neg (by decide), if_neg (by decide), if_pos rfl] at eR
      have z : zDig 115 = 2 := rfl
      refine chk_i (by first | assumption | decide | omega) ?_
      refine chk_i (by first | assumption | decide | omega) ?_
      refine ite_i (fun h => absurd h (by first | decide | omega)) (fun _ => ?_)
      refine chk_i (by first | assumption | decide | omega) ?_
      refine chk_i (by first | assumption | decide | omega) ?_
      refine ite_i (fun h => absurd h (by first | decide | omega)) (fun _ => ?_)
      refine chk_i (by first | assumption | decide | omega) ?_
      refine chk_i (by first | assumption | decide | omega) ?_
      refine ite_i (fun h => absurd h (by first | decide | omega)) (fun _ => ?_)
      refine chk_i (by first | assumption | decide | omega) ?_
      refine ite_i (fun h => absurd h (by first | decide | omega)) (fun _ => ?_)
      refine chk_i (by first | assumption | decide | omega) ?_
      refine chk_i (by first | assumption | decide | omega) ?_
      refine chk_i (by first | assumption | decide | omega) ?_
      refine ite_i (fun h => absurd h (by first | decide | omega)) (fun _ => ?_)
      refine chk_i (by first | assumption | decide | omega) ?_
      refine ite_i (fun h => absurd h (by first | decide | omega)) (fun _ => ?_)
      refine chk_i (by first | assumption | decide | omega) ?_
      refine ite_i (fun h => absurd h (by first | decide | omega)) (fun _ => ?_)
      refine chk_i (by first | assumption | decide | omega) ?_
      refine chk_i (by first | assumption | decide | omega) ?_
      refine chk_i (by first | assumption | decide | omega) ?_
      rw [up_eq D ar 5, upr_n (show 30 ≠ ar by omega), g1, g2, up_eq, upr_s, upr_u]
      refine chk_i (by first | assumption | decide | omega) ?_
      refine (ih (n + 1) _ _ _ _ _ (by omega) (by omega) (by omega) (by omega) ⟨fun b x y => by rw [upr_n x]; exact s1 b x y, fun w x y => ?_, ?_, ?_, fun i x y => ?_⟩ q)
      · rw [upr_s, eR, show 48 + E 39 (24 * f + 3 * n + 1) - 48 = E 39 (24 * f + 3 * n + 1) by omega, show 48 + E 39 (24 * f + 3 * n + 2) - 48 = E 39 (24 * f + 3 * n + 2) by omega]
        show _ = ui _ _ _ w
        by_cases cw : w = E 39 (24 * f + 3 * n + 1)
        · rw [cw, ui_s, ui_s]
        · rw [ui_n cw, ui_n cw, ui_n (by omega)]; exact s2 w x y
      · rw [upr_s, eR, ui_n (by omega), ui_n (by decide)]; exact s3
      · rw [upr_s, ec, ui_n (by omega), ui_s]; exact e7
      · rw [eR] at y
        rw [upr_n (fun h => hne h.symm), eR, s5 i x y]
        show _ = ui _ _ _ (4 + i)
        rw [ui_n (by omega)]
    · have g1 : D 30 (l6 + 1) = 48 + E 39 (24 * f + 3 * n + 1) := by rw [d30]; exact k1
      rw [if_neg (by decide)] at ea ec
      rw [if_neg (by decide), if_neg (by decide), if_neg (by decide), if_pos rfl] at eR
      have z : zDig 117 = 1 := rfl
      refine chk_i (by first | assumption | decide | omega) ?_
      refine chk_i (by first | assumption | decide | omega) ?_
      refine ite_i (fun h => absurd h (by first | decide | omega)) (fun _ => ?_)
      refine chk_i (by first | assumption | decide | omega) ?_
      refine chk_i (by first | assumption | decide | omega) ?_
      refine ite_i (fun h => absurd h (by first | decide | omega)) (fun _ => ?_)
      refine chk_i (by first | assumption | decide | omega) ?_
      refine chk_i (by first | assumption | decide | omega) ?_
      refine ite_i (fun h => absurd h (by first | decide | omega)) (fun _ => ?_)
      refine chk_i (by first | assumption | decide | omega) ?_
      refine ite_i (fun h => absurd h (by first | decide | omega)) (fun _ => ?_)
      refine chk_i (by first | assumption | decide | omega) ?_
      refine chk_i (by first | assumption | decide | omega) ?_
      refine chk_i (by first | assumption | decide | omega) ?_
      refine ite_i (fun h => absurd h (by first | decide | omega)) (fun _ => ?_)
      refine chk_i (by first | assumption | decide | omega) ?_
      refine ite_i (fun h => absurd h (by first | decide | omega)) (fun _ => ?_)
      refine chk_i (by first | assumption | decide | omega) ?_
      refine ite_i (fun _ => ?_) (fun h => absurd (by first | rfl | decide | omega) h)
      refine chk_i (by first | assumption | decide | omega) ?_
      refine chk_i (by first | assumption | decide | omega) ?_
      rw [up_eq D ar 5, upr_n (show 30 ≠ ar by omega), g1, up_eq, upr_s, upr_u]
      refine chk_i (by first | assumption | decide | omega) ?_
      refine (ih (n + 1) _ _ _ _ _ (by omega) (by omega) (by omega) (by omega) ⟨fun b x y => by rw [upr_n x]; exact s1 b x y, fun w x y => ?_, ?_, ?_, fun i x y => ?_⟩ q)
      · rw [upr_s, eR, show 48 + E 39 (24 * f + 3 * n + 1) - 48 = E 39 (24 * f + 3 * n + 1) by omega]
        show _ = ui _ _ _ w
        by_cases cw : w = E 39 (24 * f + 3 * n + 1)
        · rw [cw, ui_s, ui_s]
        · rw [ui_n cw, ui_n cw, ui_n (by omega)]; exact s2 w x y
      · rw [upr_s, eR, ui_n (by omega), ui_n (by decide)]; exact s3
      · rw [upr_s, ec, ui_n (by omega), ui_s]; exact e7
      · rw [eR] at y
        rw [upr_n (fun h => hne h.symm), eR, s5 i x y]
        show _ = ui _ _ _ (4 + i)
        rw [ui_n (by omega)]
    · rw [if_neg (by decide)] at ea ec
      rw [if_neg (by decide), if_pos rfl] at eR
      have z : zDig 109 = 0 := rfl
      have hd2 : (sR (E 39) f n).2 + 1 ≤ 3 := by have h := hd1.1.2; rw [eR] at h; exact h
      refine chk_i (by first | assumption | decide | omega) ?_
      refine chk_i (by first | assumption | decide | omega) ?_
      refine ite_i (fun h => absurd h (by first | decide | omega)) (fun _ => ?_)
      refine chk_i (by first | assumption | decide | omega) ?_
      refine chk_i (by first | assumption | decide | omega) ?_
      refine ite_i (fun h => absurd h (by first | decide | omega)) (fun _ => ?_)
      refine chk_i (by first | assumption | decide | omega) ?_
      refine chk_i (by first | assumption | decide | omega) ?_
      refine ite_i (fun h => absurd h (by first | decide | omega)) (fun _ => ?_)
      refine chk_i (by first | assumption | decide | omega) ?_
      refine ite_i (fun h => absurd h (by first | decide | omega)) (fun _ => ?_)
      refine chk_i (by first | assumption | decide | omega) ?_
      refine chk_i (by first | assumption | decide | omega) ?_
      refine chk_i (by first | assumption | decide | omega) ?_
      refine ite_i (fun _ => ?_) (fun h => absurd (by first | rfl | decide | omega) h)
      refine r101_121 (D0 := up D ar 5 l7) (d := (sR (E 39) f n).2) hA hK hne (by rw [up_eq, upr_s, ui_n (by decide)]; exact s3) (by omega) 4 0 _ rfl (Int.le_refl _) (fun _ _ => rfl) (fun i => by rw [if_neg (by omega)]) fun D' o9 j1 j2 j3 j4 => ih (n + 1) D' _ _ _ _ (by omega) (by omega) (by omega) (by omega) ⟨fun b x y => ?_, fun w x y => ?_, ?_, ?_, fun i x y => ?_⟩ q
      · rw [j1 b y x, up_eq, upr_n x]; exact s1 b x y
      · rw [j3 w (by omega), up_eq, upr_s, ui_n (by omega), eR]
        show _ = if _ then _ else _
        rw [if_neg (by omega)]; exact s2 w x y
      · rw [j4, eR]
      · rw [j3 5 (by decide), up_eq, upr_s, ui_s, ec]; exact e7
      · rw [eR] at y
        have y : i < 4 * ((sR (E 39) f n).2 + 1) := y
        rw [j2 i, eR]
        show _ = if _ then _ else _
        by_cases ci : 4 * (sR (E 39) f n).2 ≤ i
        · rw [if_pos (by omega), if_pos (by omega), up_eq, upr_s, ui_n (by omega), s2 _ (by omega) (by omega), show 4 + i - 4 * ((sR (E 39) f n).2 + 1) = i - 4 * (sR (E 39) f n).2 by omega]
        · rw [if_neg (by omega), if_neg (by omega), up_eq, upr_n (fun h => hne h.symm)]; exact s5 i x (by omega)
    · rw [if_neg (by decide)] at ea ec
      rw [if_pos rfl] at eR
      have z : zDig 98 = 0 := rfl
      have hd2 : 0 ≤ (sR (E 39) f n).2 - 1 := by have h := hd1.1.1; rw [eR] at h; exact h
      refine chk_i (by first | assumption | decide | omega) ?_
      refine chk_i (by first | assumption | decide | omega) ?_
      refine ite_i (fun h => absurd h (by first | decide | omega)) (fun _ => ?_)
      refine chk_i (by first | assumption | decide | omega) ?_
      refine chk_i (by first | assumption | decide | omega) ?_
      refine ite_i (fun h => absurd h (by first | decide | omega)) (fun _ => ?_)
      refine chk_i (by first | assumption | decide | omega) ?_
      refine chk_i (by first | assumption | decide | omega) ?_
      refine ite_i (fun h => absurd h (by first | decide | omega)) (fun _ => ?_)
      refine chk_i (by first | assumption | decide | omega) ?_
      refine ite_i (fun h => absurd h (by first | decide | omega)) (fun _ => ?_)
      refine chk_i (by first | assumption | decide | omega) ?_
      refine chk_i (by first | assumption | decide | omega) ?_
      refine chk_i (by first | assumption | decide | omega) ?_
      refine ite_i (fun h => absurd h (by first | decide | omega)) (fun _ => ?_)
      refine chk_i (by first | assumption | decide | omega) ?_
      refine ite_i (fun _ => ?_) (fun h => absurd (by first | rfl | decide | omega) h)
      refine chk_i (by first | assumption | decide | omega) ?_
      refine chk_i (by first | assumption | decide | omega) ?_
      refine chk_i (by first | assumption | decide | omega) ?_
      refine chk_i (by first | assumption | decide | omega) ?_
      rw [up_eq D ar 5, up_eq, upr_s, upr_u, ui_n (show (4 : Int) ≠ 5 by decide), s3]
      refine r101_179 (D0 := upr D ar (ui (ui (D ar) 5 l7) 4 ((sR (E 39) f n).2 - 1))) (d := (sR (E 39) f n).2 - 1) hA hK hne (by rw [upr_s, ui_s]) (by omega) 4 0 _ rfl (Int.le_refl _) (fun _ _ => rfl) (fun i => by rw [if_neg (by omega)]) fun D' o9 j1 j2 => ih (n + 1) D' _ _ _ _ (by omega) (by omega) (by omega) (by omega) ⟨fun b x y => ?_, fun w x y => ?_, ?_, ?_, fun i x y => ?_⟩ q
      · rw [j1 b x, upr_n x]; exact s1 b x y
      · rw [j2 w, if_pos ⟨x, y⟩, upr_n (fun h => hne h.symm), s5 _ (by omega) (by omega), eR]
        show _ = if _ then _ else _
        rw [if_pos ⟨x, y⟩, show 4 + (4 * ((sR (E 39) f n).2 - 1) + w) = 4 * (sR (E 39) f n).2 + w by omega]
      · rw [j2 4, if_neg (by omega), upr_s, ui_s, eR]
      · rw [j2 5, if_neg (by omega), upr_s, ui_n (by decide), ui_s, ec]; exact e7
      · rw [eR] at y
        have y : i < 4 * ((sR (E 39) f n).2 - 1) := y
        rw [j1 kp (fun h => hne h.symm), upr_n (fun h => hne h.symm), s5 i x (by omega), eR]
        show _ = if _ then _ else _
        rw [if_neg (by omega), if_neg (by omega)]
/-- a row, replayed -/
theorem r101 (hB : BK (D 28) (D 30) E f) (ha : 0 ≤ a ∧ a ≤ 9) (hA : AR t ar 6) (q : ∀ t' D', KX ar ar t t' D D' 1 16 → (∀ w, 0 ≤ w → w < 4 → D' ar w = E 34 (40 * f + 4 * a + w)) → D' ar 4 = E 35 (10 * f + a) → D' ar 5 = E 36 (10 * f + a) → Q 0 t' D') : wp S 101 0 [some (qs 28), some (qs 30), some (qi f), some (qi a), some (qr ar), none, none, none, none, none] [] t D Q := by
  have hA' : AR (nwT t.1 t.2.2.1 (10, 16), nwP t.2.1 t.2.2.1, (t.2.2.1 + 1, t.2.2.2 + 16)) ar 6 := hA.o
  have hlt := hA.2.2
  have h31 := hA.2.1
  have hf := hB.2.2.2.2.2
  have hV := hB.ov
  refine lb101_0 (r101_9 (D0 := upr D t.2.2.1 (fun _ => 0)) ⟨hA'.k1, by rw [hA'.1]⟩ (by omega) 6 0 _ rfl (Int.le_refl _) (fun _ _ => rfl) (fun i x y => by omega) fun D' j1 j2 => ?_)
  have e28 : D' 28 = D 28 := by rw [j1 28 (by omega), upr_n (by omega)]
  have hB' : BK ((upr D t.2.2.1 (fun _ => 0)) 28) ((upr D t.2.2.1 (fun _ => 0)) 30) E f := by rw [upr_n (by omega), upr_n (by omega)]; exact hB
  have h0 : (sR (E 39) f 0) = (fun _ => -1, 0) := rfl
  refine r101_48 (D0 := upr D t.2.2.1 (fun _ => 0)) hB' ha ⟨hA'.k1, by rw [hA'.1]⟩ ⟨by rw [show ((nwT t.1 t.2.2.1 (10, 16), nwP t.2.1 t.2.2.1, (t.2.2.1 + 1, t.2.2.2 + 16)) : qT).1 t.2.2.1 = (10, 16) from if_pos rfl], by rw [show ((nwT t.1 t.2.2.1 (10, 16), nwP t.2.1 t.2.2.1, (t.2.2.1 + 1, t.2.2.2 + 16)) : qT).1 t.2.2.1 = (10, 16) from if_pos rfl]⟩ (by omega) ⟨h31, by omega⟩ _ 0 D' _ _ _ _ (Nat.zero_add _) ?_ rfl ha.1 ⟨fun b x y => j1 b x, fun w x y => ?_, ?_, ?_, fun i x y => ?_⟩ fun n' D2 g1 g2 g3 g4 => ?_
  · rw [e28, hB.1.1]; exact (Int.add_zero _).symm
  · rw [j2 w x (by omega), if_pos y, h0]
  · rw [j2 4 (by decide) (by decide), h0]; rfl
  · rw [j2 5 (by decide) (by decide)]; rfl
  · rw [h0] at y; exact absurd y (by show ¬ i < 4 * 0; omega)
  · obtain ⟨s1, s2, s3, s4, -⟩ := g4
    have hx := hB.2.2.2.2.1 a ha.1 (by omega)
    have hr : ROWX (E 39) f (E 37 f).toNat a (fun w => D2 ar w) (D2 ar 4) (D2 ar 5) := ⟨n', g1, g2, g3, s2, s3, s4⟩
    obtain ⟨u1, u2, u3⟩ := hr.uni hV hx
    refine q _ _ ⟨⟨Nat.le_succ _, Nat.le_refl _, Nat.le_refl _⟩, fun b hb => ⟨if_neg (by omega), ?_, fun x _ => ?_⟩⟩ u1 u2 u3
    · show (nwP t.2.1 t.2.2.1) b = _; funext i; exact if_neg (by omega)
    · rw [s1 b x (by omega), upr_n (by omega)]
end LR
