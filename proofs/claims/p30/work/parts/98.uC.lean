/-! ## all that stands; the text spelled -/
theorem wp_ex {S : (Nat → Int32) × Nat} {m pc : Nat} {L : qL} {st : List qV} {t : qT} {D : qD} {Q : Int → qT → qD → Prop} (h : wp S m pc L st t D (fun x t' D' => qSt t' → qEx t t' → Q x t' D')) : wp S m pc L st t D Q := wp_mono h fun _ _ _ a b c => c a b
theorem sAny_sum {sv : Int → Int} {i : Int} (h : ∀ r, 0 ≤ r → r < 4 → -1 ≤ sv (4 * i + r)) : sAny sv i 4 0 = true ↔ -4 < sv (4 * i + 0) + sv (4 * i + 1) + sv (4 * i + 2) + sv (4 * i + 3) := by
  have h0 := h 0 (by decide) (by decide)
  have h1 := h 1 (by decide) (by decide)
  have h2 := h 2 (by decide) (by decide)
  have h3 := h 3 (by decide) (by decide)
  have e : sAny sv i 4 0 = if sv (4 * i + 0) = -1 then (if sv (4 * i + 1) = -1 then (if sv (4 * i + 2) = -1 then (if sv (4 * i + 3) = -1 then false else true) else true) else true) else true := rfl
  rw [e]
  by_cases c0 : sv (4 * i + 0) = -1
  · rw [if_pos c0]
    by_cases c1 : sv (4 * i + 1) = -1
    · rw [if_pos c1]
      by_cases c2 : sv (4 * i + 2) = -1
      · rw [if_pos c2]
        by_cases c3 : sv (4 * i + 3) = -1
        · rw [if_pos c3]; exact ⟨fun h => absurd h (by decide), fun h => absurd h (by omega)⟩
        · rw [if_neg c3]; exact ⟨fun _ => by omega, fun _ => rfl⟩
      · rw [if_neg c2]; exact ⟨fun _ => by omega, fun _ => rfl⟩
    · rw [if_neg c1]; exact ⟨fun _ => by omega, fun _ => rfl⟩
  · rw [if_neg c0]; exact ⟨fun _ => by omega, fun _ => rfl⟩
section LV
variable {S : (Nat → Int32) × Nat} {t t0 : qT} {D D0 G : qD} {Q : Int → qT → qD → Prop} {ar : Nat}
theorem r108_47 {l7 l8 a fi : Int} (hL : LI t D G) (hA : AR t ar 6) (hf : 0 ≤ fi ∧ fi < G 28 14) (ha : 0 ≤ a ∧ a ≤ 9) (hl7 : 0 ≤ l7 ∧ l7 ≤ 30) (hv : ∀ w, 0 ≤ w → w < 4 → D ar w = G 34 (40 * fi + 4 * a + w)) (h4 : D ar 4 = G 35 (10 * fi + a)) (h5 : D ar 5 = G 36 (10 * fi + a)) (cont : ∀ v k, v = l7 + (if sAny (G 34) (10 * fi + a) 4 0 = true then 1 else 0) → wp S 108 26 [some (qs 0), some (qs 28), some (qs 29), some (qs 30), some (qs 31), some (qs 32), some (qr ar), some (qi v), some (qi l8), some (qi fi), some (qi (a + 1)), some (qi k)] [] t D Q) :
    ∀ (m : Nat) (k : Int), k + m = 6 → 0 ≤ k → wp S 108 47 [some (qs 0), some (qs 28), some (qs 29), some (qs 30), some (qs 31), some (qs 32), some (qr ar), some (qi l7), some (qi l8), some (qi fi), some (qi a), some (qi k)] [] t D Q := by
  obtain ⟨⟨kk, hX⟩, hR, hT, h9, hM, hG⟩ := hL
  have hC := hR.1
  have hnf := hT.2.1
  have hA1 := hA.k1
  have hA2 : (t.1 ar).2 = 6 := by rw [hA.1]
  have hb : ∀ r, 0 ≤ r → r < 4 → -1 ≤ G 34 (4 * (10 * fi + a) + r) ∧ G 34 (4 * (10 * fi + a) + r) ≤ 5 := fun r r0 r1 => hC.2.2.2.1 _ (by omega) (by omega)
  have hd := hC.2.2.2.2.1 (10 * fi + a) (by omega) (by omega)
  have e4 : ∀ r, 40 * fi + 4 * a + r = 4 * (10 * fi + a) + r := fun r => by omega
  intro m
  induction m with
  | zero =>
    intro k hk h0
    have hs := sAny_sum (sv := G 34) (i := 10 * fi + a) fun r r0 r1 => (hb r r0 r1).1
    have b0 := hb 0 (by decide) (by decide)
    have b1 := hb 1 (by decide) (by decide)
    have b2 := hb 2 (by decide) (by decide)
    have b3 := hb 3 (by decide) (by decide)
    apply lb108_47
    rw [hv 0 (by decide) (by decide), hv 1 (by decide) (by decide), hv 2 (by decide) (by decide), hv 3 (by decide) (by decide), e4, e4, e4, e4]
    refine chk_i (by first | assumption | decide | omega) ?_
    refine ite_i (fun h => absurd h (by first | decide | omega)) (fun _ => ?_)
    refine chk_i (by first | assumption | decide | omega) ?_
    refine chk_i (by first | assumption | decide | omega) ?_
    refine chk_i (by first | assumption | decide | omega) ?_
    refine chk_i (by first | assumption | decide | omega) ?_
    refine chk_i (by first | assumption | decide | omega) ?_
    refine chk_i (by first | assumption | decide | omega) ?_
    refine chk_i (by first | assumption | decide | omega) ?_
    refine chk_i (by first | assumption | decide | omega) ?_
    refine chk_i (by first | assumption | decide | omega) ?_
    refine ite_i (fun h => cont _ _ ?_) fun h => cont _ _ ?_
    · rw [if_pos (hs.mpr h)]
    · rw [if_neg (fun z => h (hs.mp z))]
  | succ m ih =>
    intro k hk h0
    apply lb108_47
    refine chk_i (by first | assumption | decide | omega) ?_
    refine ite_i (fun _ => ?_) (fun h => absurd (by first | rfl | decide | omega) h)
    refine x72 hX.q.1 hR (by omega) (by omega) (by omega) ?_
    have ev : vRow G fi a k = D ar k := by
      unfold vRow vTellRow
      rw [if_neg (by omega), if_neg (by omega), if_neg (by omega)]
      by_cases c4 : k = 4
      · rw [if_pos c4, c4, h4]
      · rw [if_neg c4]
        by_cases c5 : k = 5
        · rw [if_pos c5, c5, h5]
        · rw [if_neg c5, hv k h0 (by omega)]
    have hq : qR (vRow G fi a k) := by
      unfold vRow
      rw [if_neg (by omega), if_neg (by omega), if_neg (by omega)]
      exact vTellRow_R hC hf ha (by omega)
    rw [ev] at hq ⊢
    exact chk_i hA1 (chk_i (by omega) (chk_i hq (chk_i hq (ite_i (fun _ => ih (k + 1) (by omega) (by omega)) fun h => absurd rfl h))))
theorem r108_26 {l8 fi T : Int} {f C X : Nat} (hL : LI t0 D0 G) (har : ar = t0.2.2.1) (ef : fi = f) (hf : 0 ≤ fi ∧ fi < G 28 14) (cont : ∀ t D v o11, (0 ≤ v ∧ v ≤ 10 * fi + 10) → AR t ar 6 → KX ar ar t0 t D0 D C X → (∃ k : Nat, 10 * (fi + 1) + k = 30 ∧ sSvd (G 34) (G 28 14) k (10 * (fi + 1)) v = T) → wp S 108 123 [some (qs 0), some (qs 28), some (qs 29), some (qs 30), some (qs 31), some (qs 32), some (qr ar), some (qi v), some (qi l8), some (qi fi), some (qi 0), o11] [] t D Q) :
    ∀ (m : Nat) (a : Int) (t : qT) (D : qD) (c s : Nat) (l7 : Int) (o11 : Option qV), a + m = 10 → 0 ≤ a → AR t ar 6 → KX ar ar t0 t D0 D c s → c + m ≤ C → s + 16 * m ≤ X → (0 ≤ l7 ∧ l7 ≤ 10 * fi + a) → (∃ k : Nat, 10 * fi + a + k = 30 ∧ sSvd (G 34) (G 28 14) k (10 * fi + a) l7 = T) → wp S 108 26 [some (qs 0), some (qs 28), some (qs 29), some (qs 30), some (qs 31), some (qs 32), some (qr ar), some (qi l7), some (qi l8), some (qi fi), some (qi a), o11] [] t D Q := by
  intro m
  induction m with
  | zero =>
    intro a t D c s l7 o11 ha h0 hA hk hc hs hl hsv
    apply lb108_26
    refine chk_i (by first | assumption | decide | omega) ?_
    refine ite_i (fun h => absurd h (by first | decide | omega)) (fun _ => ?_)
    have e : 10 * fi + a = 10 * (fi + 1) := by omega
    rw [e] at hsv
    exact cont t D l7 o11 (by omega) hA (hk.w (by omega) (by omega)) hsv
  | succ m ih =>
    intro a t D c s l7 o11 ha h0 hA hk hc hs hl hsv
    have hL' := hL.kx hk (by omega) (by omega)
    obtain ⟨⟨kk, hX⟩, hR, hT, h9, hM, hG⟩ := id hL'
    have hB := hT.2.2 f (by omega)
    have hnf := hT.2.1
    apply lb108_26
    refine chk_i (by first | assumption | decide | omega) ?_
    refine ite_i (fun _ => ?_) (fun h => absurd (by first | rfl | decide | omega) h)
    rw [ef]
    refine r101 hB (by omega) hA fun t1 D1 k1 g1 g2 g3 => ?_
    rw [← ef] at g1 g2 g3 ⊢
    have hk1 : KX ar ar t0 t1 D0 D1 (c + 1) (s + 16) := hk.tr k1 (Or.inl rfl) (Or.inl rfl) (Nat.le_refl _) (Nat.le_refl _)
    have hL1 := hL.kx hk1 (by omega) (by omega)
    refine r108_47 hL1 (hA.k k1) hf (by omega) (by omega) g1 g2 g3 (fun v k hv => ?_) 6 0 rfl (Int.le_refl _)
    obtain ⟨k', hk', hs'⟩ := hsv
    obtain ⟨k'', rfl⟩ : ∃ j, k' = j + 1 := ⟨k' - 1, by omega⟩
    have e : sSvd (G 34) (G 28 14) (k'' + 1) (10 * fi + a) l7 = if 10 * fi + a < 10 * G 28 14 then sSvd (G 34) (G 28 14) k'' (10 * fi + a + 1) (l7 + if sAny (G 34) (10 * fi + a) 4 0 = true then 1 else 0) else l7 := rfl
    rw [e, if_pos (by omega), ← hv] at hs'
    refine ih (a + 1) t1 D1 (c + 1) (s + 16) v _ (by omega) (by omega) (hA.k k1) hk1 (by omega) (by omega) ?_ ⟨k'', by omega, ?_⟩
    · rw [hv]; split <;> omega
    · rw [show 10 * fi + (a + 1) = 10 * fi + a + 1 by omega]; exact hs'
theorem r108_160 {l7 l8 fi p : Int} {f : Nat} (hL : LI t D G) (ef : fi = f) (hf : fi < G 28 14) (hp : 0 ≤ p ∧ p < G 38 fi) (cont : ∀ k, wp S 108 123 [some (qs 0), some (qs 28), some (qs 29), some (qs 30), some (qs 31), some (qs 32), some (qr ar), some (qi l7), some (qi l8), some (qi fi), some (qi (p + 1)), some (qi k)] [] t D Q) :
    ∀ (m : Nat) (k : Int), k + m = 5 → 1 ≤ k → wp S 108 160 [some (qs 0), some (qs 28), some (qs 29), some (qs 30), some (qs 31), some (qs 32), some (qr ar), some (qi l7), some (qi l8), some (qi fi), some (qi p), some (qi k)] [] t D Q := by
  obtain ⟨⟨kk, hX⟩, hR, hT, h9, hM, hG⟩ := hL
  have hB := hT.2.2 f (by omega)
  have hpm := hB.2.1.1
  have hf3 := hB.2.2.2.2.2
  rw [ef] at hp
  obtain ⟨x, ex, hx, hTx⟩ := hB.pad hp
  rw [← ef] at ex hTx hp hpm
  intro m
  induction m with
  | zero =>
    intro k hk h1
    apply lb108_160
    refine chk_i (by first | assumption | decide | omega) ?_
    refine ite_i (fun h => absurd h (by first | decide | omega)) (fun _ => ?_)
    exact cont _
  | succ m ih =>
    intro k hk h1
    apply lb108_160
    refine chk_i (by first | assumption | decide | omega) ?_
    refine ite_i (fun _ => ?_) (fun h => absurd (by first | rfl | decide | omega) h)
    refine x73 hX.q.1 hX.q.2.1 hR (by omega) (by omega) (by omega) ?_
    have tk := hTx k h1 (by omega)
    have ev : vPad G fi p k = G 40 (15 * fi + 5 * p + k) := by
      unfold vPad vTellPad
      rw [if_neg (by omega), if_neg (by omega), if_pos (by omega)]
    rw [ev, ex, tk.1, show 48 + G 40 (15 * fi + 5 * p + k) - 48 = G 40 (15 * fi + 5 * p + k) by omega]
    exact chk_i (by omega) (chk_i (by omega) (chk_i (by omega) (chk_i (by omega) (ite_i (fun _ => ih (k + 1) (by omega) (by omega)) fun h => absurd rfl h))))
theorem r108_123 {l7 l8 fi : Int} {f : Nat} (hL : LI t D G) (ef : fi = f) (hf : fi < G 28 14) (cont : ∀ l10 o11, wp S 108 15 [some (qs 0), some (qs 28), some (qs 29), some (qs 30), some (qs 31), some (qs 32), some (qr ar), some (qi l7), some (qi (l8 + G 38 fi)), some (qi (fi + 1)), some (qi l10), o11] [] t D Q) :
    ∀ (m : Nat) (p : Int) (o11 : Option qV), p + m = G 38 fi → 0 ≤ p → wp S 108 123 [some (qs 0), some (qs 28), some (qs 29), some (qs 30), some (qs 31), some (qs 32), some (qr ar), some (qi l7), some (qi l8), some (qi fi), some (qi p), o11] [] t D Q := by
  have hL' := hL
  obtain ⟨⟨kk, hX⟩, hR, hT, h9, hM, hG⟩ := hL
  have hB := hT.2.2 f (by omega)
  have hpm := hB.2.1.1
  have hf3 := hB.2.2.2.2.2
  have eB : D 28 (4 + fi) = G 38 fi := by rw [ef]; exact hB.1.2
  rw [← ef] at hpm
  intro m
  induction m with
  | zero =>
    intro p o11 hp h0
    apply lb108_123
    rw [eB]
    refine chk_i (by first | assumption | decide | omega) ?_
    refine chk_i (by first | assumption | decide | omega) ?_
    refine chk_i (by first | assumption | decide | omega) ?_
    refine ite_i (fun h => absurd h (by first | decide | omega)) (fun _ => ?_)
    refine chk_i (by first | assumption | decide | omega) ?_
    exact cont _ _
  | succ m ih =>
    intro p o11 hp h0
    apply lb108_123
    rw [eB]
    refine chk_i (by first | assumption | decide | omega) ?_
    refine chk_i (by first | assumption | decide | omega) ?_
    refine chk_i (by first | assumption | decide | omega) ?_
    refine ite_i (fun _ => ?_) (fun h => absurd (by first | rfl | decide | omega) h)
    refine x73 hX.q.1 hX.q.2.1 hR (by omega) (by omega) (by decide) ?_
    have ev : vPad G fi p 0 = G 42 (3 * fi + p) := by
      unfold vPad vTellPad
      rw [if_neg (by omega), if_pos rfl]
    have hk9 := hR.2.1.2.2.1 (3 * fi + p) (by omega) (by omega)
    rw [ev, h9 _ (by omega) (by omega)]
    refine chk_i (by omega) (chk_i (by omega) (chk_i (by omega) (ite_i (fun _ => ?_) fun h => absurd rfl h)))
    exact r108_160 hL' ef hf (by omega) (fun k => ih (p + 1) _ (by omega) (by omega)) 4 1 rfl (Int.le_refl _)
theorem r108_15 (hL : LI t0 D0 G) (har : ar = t0.2.2.1) (q : ∀ t' D', KX ar ar t0 t' D0 D' 48 666 → Q 1 t' D') :
    ∀ (m f : Nat) (fi : Int) (t : qT) (D : qD) (c s : Nat) (l7 l8 : Int) (o10 o11 : Option qV), (f + m : Nat) = G 28 14 → fi = f → AR t ar 6 → KX ar ar t0 t D0 D c s → c + 10 * m ≤ 31 → s + 160 * m ≤ 486 → (0 ≤ l7 ∧ l7 ≤ 10 * fi) → (0 ≤ l8 ∧ l8 ≤ 3 * fi) → (∃ k : Nat, 10 * fi + k = 30 ∧ sSvd (G 34) (G 28 14) k (10 * fi) l7 = sSvd (G 34) (G 28 14) 30 0 0) → (∃ k : Nat, fi + k = 3 ∧ sPads (G 38) (G 28 14) k fi l8 = sPads (G 38) (G 28 14) 3 0 0) → wp S 108 15 [some (qs 0), some (qs 28), some (qs 29), some (qs 30), some (qs 31), some (qs 32), some (qr ar), some (qi l7), some (qi l8), some (qi fi), o10, o11] [] t D Q := by
  intro m
  induction m with
  | zero =>
    intro f fi t D c s l7 l8 o10 o11 hf ef hA hk hc hs hl7 hl8 hsv hpd
    have hL' := hL.kx hk (by omega) (by omega)
    obtain ⟨⟨kk, hX⟩, hR, hT, h9, hM, hG⟩ := id hL'
    have hnf := hT.2.1
    have h00 := hT.1
    have ei : fi = G 28 14 := by omega
    apply lb108_15
    rw [h00, ei]
    refine chk_i (by omega) (chk_i (by omega) (ite_i (fun h => absurd h (by omega)) fun _ => ?_))
    refine r109 hL' fun t1 D1 k1 => ?_
    have ht1 := hk.1.1
    have hk1 : KX ar ar t0 t1 D0 D1 48 666 := hk.tr k1 (Or.inr (Or.inr (by omega))) (Or.inr (Or.inr (by omega))) (by omega) (by omega)
    have hL1 := hL.kx hk1 (by omega) (by omega)
    obtain ⟨⟨k2, hX1⟩, -, hT1, -, -, -⟩ := id hL1
    refine chk_i (by decide) (ite_i (fun h => absurd h (by decide)) fun _ => ?_)
    refine x93 hX1.q hR (by decide) ?_
    have e0 : vCount G 0 = G 28 14 := rfl
    have e1 : vCount G 1 = sPads (G 38) (G 28 14) 3 0 0 := rfl
    have e4 : vCount G 4 = sSvd (G 34) (G 28 14) 30 0 0 := rfl
    have q1 : qR (vCount G 1) := vCount_R hR
    have q4 : qR (vCount G 4) := vCount_R hR
    have l8e : vCount G 1 = l8 := by
      obtain ⟨k, a, b⟩ := hpd
      rw [e1, ← b]
      cases k with
      | zero => rfl
      | succ k => exact if_neg (by omega)
    have l7e : vCount G 4 = l7 := by
      obtain ⟨k, a, b⟩ := hsv
      rw [e4, ← b]
      cases k with
      | zero => rfl
      | succ k => exact if_neg (by omega)
    rw [e0, hT1.1]
    refine chk_i (by omega) (chk_i (by omega) (ite_i (fun _ => ?_) fun h => absurd rfl h))
    refine x93 hX1.q hR (by decide) ?_
    rw [l8e]
    refine chk_i (by omega) (chk_i (by omega) (ite_i (fun _ => ?_) fun h => absurd rfl h))
    refine x93 hX1.q hR (by decide) ?_
    rw [l7e]
    exact chk_i (by omega) (chk_i (by omega) (ite_i (fun _ => q t1 D1 hk1) fun h => absurd rfl h))
  | succ m ih =>
    intro f fi t D c s l7 l8 o10 o11 hf ef hA hk hc hs hl7 hl8 hsv hpd
    have hL' := hL.kx hk (by omega) (by omega)
    obtain ⟨⟨kk, hX⟩, hR, hT, h9, hM, hG⟩ := id hL'
    have hnf := hT.2.1
    have h00 := hT.1
    have hB := hT.2.2 f (by omega)
    have hpm := hB.2.1.1
    rw [← ef] at hpm
    apply lb108_15
    rw [h00]
    refine chk_i (by omega) (chk_i (by omega) (ite_i (fun _ => ?_) fun h => absurd (by omega) h))
    refine r108_26 (T := sSvd (G 34) (G 28 14) 30 0 0) (C := c + 10) (X := s + 160) (f := f) hL har ef (by omega) (fun t1 D1 v o11 hv hA1 hk1 hsv1 => ?_) 10 0 t D c s l7 o11 rfl (Int.le_refl _) hA hk (Nat.le_refl _) (Nat.le_refl _) (by omega) (by rw [Int.add_zero]; exact hsv)
    have hL1 := hL.kx hk1 (by omega) (by omega)
    refine r108_123 hL1 ef (by omega) (fun l10 o11 => ?_) (G 38 fi).toNat 0 o11 (by omega) (Int.le_refl _)
    refine ih (f + 1) (fi + 1) t1 D1 (c + 10) (s + 160) v (l8 + G 38 fi) _ _ (by omega) (by omega) hA1 hk1 (by omega) (by omega) (by omega) (by omega) hsv1 ?_
    obtain ⟨k, a, b⟩ := hpd
    obtain ⟨k', rfl⟩ : ∃ j, k = j + 1 := ⟨k - 1, by omega⟩
    have e : sPads (G 38) (G 28 14) (k' + 1) fi l8 = if fi < G 28 14 then sPads (G 38) (G 28 14) k' (fi + 1) (l8 + G 38 fi) else l8 := rfl
    rw [e, if_pos (by omega)] at b
    exact ⟨k', by omega, b⟩
/-- all that stands, compared -/
theorem r108 (hL : LI t D G) (q : ∀ t' D', KX t.2.2.1 t.2.2.1 t t' D D' 48 666 → Q 1 t' D') : wp S 108 0 [some (qs 0), some (qs 28), some (qs 29), some (qs 30), some (qs 31), some (qs 32), none, none, none, none, none, none] [] t D Q := by
  obtain ⟨k, hX⟩ := hL.1
  have h34 := hX.1
  have hnf := hL.2.2.1.2.1
  refine lb108_0 (r108_15 hL rfl q (G 28 14).toNat 0 0 _ _ 1 6 0 0 _ _ ?_ rfl (AR.nw (by omega)) KX.nw (by omega) (by omega) (by decide) (by decide) ⟨30, rfl, rfl⟩ ⟨3, rfl, rfl⟩)
  omega
/-! ### spelled -/
def SPL (T : Int → Int) (t : qT) (D G : qD) (j : Nat) : Prop := (∃ k, XJ t D G k) ∧ RVs G ∧ G 28 1 = j ∧ (∀ i, 0 ≤ i → i < (j : Int) → G 29 i = T i) ∧ G 28 15 = 0
theorem r100_2 {n : Nat} {ni : Int} (en : ni = n) (hn : n ≤ 62) (hT : LTs (D0 30) n) (q : ∀ t' D' G', SPL (D0 30) t' D' G' n → KR D0 D' → t'.2.2.1 ≤ t0.2.2.1 + 24 * n → t'.2.2.2 ≤ t0.2.2.2 + 600 * n → t0.2.2.1 ≤ t'.2.2.1 → Q 1 t' D') :
    ∀ (m j : Nat) (ji : Int) (t : qT) (D G : qD), j + m = n → ji = j → SPL (D0 30) t D G j → KR D0 D → t.2.2.1 ≤ t0.2.2.1 + 24 * j → t.2.2.2 ≤ t0.2.2.2 + 600 * j → t0.2.2.1 ≤ t.2.2.1 → wp S 100 2 [some (qs 0), some (qs 30), some (qi ni), some (qi ji)] [] t D Q := by
  intro m
  induction m with
  | zero =>
    intro j ji t D G hj ej hP hD h1 h2 h3
    apply lb100_2
    refine chk_i (by first | assumption | decide | omega) ?_
    refine chk_i (by first | assumption | decide | omega) ?_
    refine ite_i (fun h => absurd h (by first | decide | omega)) (fun _ => ?_)
    have : j = n := by omega
    subst this
    exact q t D G hP hD h1 h2 h3
  | succ m ih =>
    intro j ji t D G hj ej hP hD h1 h2 h3
    obtain ⟨⟨k, hX⟩, hR, g1, g2, g3⟩ := hP
    have hc := hT ji (by omega) (by omega)
    have e30 : D 30 = D0 30 := hD 30 (by decide) (by decide)
    apply lb100_2
    refine chk_i (by first | assumption | decide | omega) ?_
    refine chk_i (by first | assumption | decide | omega) ?_
    refine ite_i (fun _ => ?_) (fun h => absurd (by first | rfl | decide | omega) h)
    refine chk_i (by first | assumption | decide | omega) ?_
    rw [e30]
    generalize hcc : D0 30 ji = c at hc
    have ep : pLetter G c = (G 28 1 + 1, upr (upr G 29 (ui (G 29) (G 28 1) c)) 28 (ui (G 28) 1 (G 28 1 + 1))) := by
      unfold pLetter
      rw [if_neg (by omega), if_neg (by omega)]
    refine wp_ex (x68 hX hR (by omega) fun t1 D1 hx => fun _ hex => ?_)
    obtain ⟨hJ, hkr, x1, x2⟩ := hx
    have hrk := rk_letter (c := c) hR
    rw [ep] at hJ hrk ⊢
    have e1 : G 28 1 + 1 = ji + 1 := by omega
    show chk (qR (G 28 1 + 1)) _
    refine chk_i (by omega) (chk_i (by omega) (ite_i (fun _ => ?_) fun h => absurd e1 h))
    have y1 : t1.2.2.1 ≤ t0.2.2.1 + 24 * (j + 1) := by omega
    have y2 : t1.2.2.2 ≤ t0.2.2.2 + 600 * (j + 1) := by rw [Nat.mul_add, Nat.mul_one, ← Nat.add_assoc]; exact Nat.le_trans x2 (Nat.add_le_add_right h2 600)
    have y3 : KR D0 D1 := fun b h4 h5 => (hkr b h4 h5).trans (hD b h4 h5)
    have y4 : t0.2.2.1 ≤ t1.2.2.1 := Nat.le_trans h3 hex.1
    refine ih (j + 1) (ji + 1) t1 D1 (upr (upr G 29 (ui (G 29) (G 28 1) c)) 28 (ui (G 28) 1 (G 28 1 + 1))) (by omega) (by omega) ⟨hJ, hrk.1, ?_, fun i a b => ?_, hrk.2.trans g3⟩ y3 y1 y2 y4
    · show upr _ 28 _ 28 1 = _
      rw [upr_s, ui_s]; omega
    · show upr _ 28 _ 29 i = _
      rw [upr_n (by decide), upr_s]
      by_cases c2 : i = G 28 1
      · rw [c2, ui_s, ← hcc]
        congr 1
        omega
      · rw [ui_n c2]; exact g2 i a (by omega)
end LV
