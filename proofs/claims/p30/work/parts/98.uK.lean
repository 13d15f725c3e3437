/-! ## the law, whole -/
section LK
variable {S : (Nat → Int32) × Nat} {t : qT} {D G : qD} {Q : Int → qT → qD → Prop} {l8 : Int}
theorem f116_128 {f p : Int} (hL : LI t D G) (hf : 0 ≤ f ∧ f < G 28 14) (hp : 0 ≤ p ∧ p < G 38 f) (cont : ∀ k, wp S 116 199 [some qx, some (qs 0), some (qs 28), some (qs 29), some (qs 30), some (qs 31), some (qs 32), some (qs 33), some (qi l8), some (qi f), some (qi p), some (qi k)] [] t D Q) :
    ∀ (m : Nat) (k : Int), k + m = 5 → 0 ≤ k → wp S 116 128 [some qx, some (qs 0), some (qs 28), some (qs 29), some (qs 30), some (qs 31), some (qs 32), some (qs 33), some (qi l8), some (qi f), some (qi p), some (qi k)] [] t D Q := by
  obtain ⟨⟨kk, hX⟩, hR, hT, h9, hM, hG⟩ := id hL
  have hnf := hT.2.1
  have hpm := (hR.1.2.1 f hf.1 hf.2).2.2
  have hi : 0 ≤ 3 * f + p ∧ 3 * f + p < 9 := by omega
  have hkd := hR.2.1.2.2.1 _ hi.1 hi.2
  have e9 := h9 _ hi.1 hi.2
  intro m
  induction m with
  | zero =>
    intro k hk h0
    apply lb116_128
    refine chk_i (by first | assumption | decide | omega) ?_
    refine ite_i (fun h => absurd h (by first | decide | omega)) (fun _ => ?_)
    exact cont k
  | succ m ih =>
    intro k hk h0
    have ev : vAs G f p k = if k = 0 ∨ k = G 42 (3 * f + p) ∨ (k = 2 ∧ G 42 (3 * f + p) = 4) then p else -1 := by
      unfold vAs
      rw [if_neg (by omega), if_neg (by omega)]
    have nx := lb116_193 (ih (k + 1) (by omega) (by omega))
    apply lb116_128
    refine chk_i (by first | assumption | decide | omega) ?_
    refine ite_i (fun _ => ?_) (fun h => absurd (by first | rfl | decide | omega) h)
    refine x74 hX.q.1 hR (by omega) (by omega) (by omega) ?_
    refine chk_i (by omega) (ite_i (fun c0 => ?_) fun c0 => chk_i hi (chk_i (by omega) ?_))
    · rw [ev, if_pos (Or.inl c0)]
      exact chk_i (by omega) (chk_i (by omega) (ite_i (fun _ => nx) fun h => absurd rfl h))
    · rw [e9]
      refine chk_i (by omega) (ite_i (fun c1 => ?_) fun c1 => chk_i (by omega) (ite_i (fun c2 => chk_i hi (chk_i (by omega) (ite_i (fun c3 => ?_) fun c3 => ?_))) fun c2 => ?_))
      · rw [ev, if_pos (Or.inr (Or.inl c1))]
        exact chk_i (by omega) (chk_i (by omega) (ite_i (fun _ => nx) fun h => absurd rfl h))
      · rw [ev, if_pos (Or.inr (Or.inr ⟨c2, c3⟩))]
        exact chk_i (by omega) (chk_i (by omega) (ite_i (fun _ => nx) fun h => absurd rfl h))
      · rw [ev, if_neg (by omega)]
        exact chk_i (by decide) (ite_i (fun _ => nx) fun h => absurd rfl h)
      · rw [ev, if_neg (by omega)]
        exact chk_i (by decide) (ite_i (fun _ => nx) fun h => absurd rfl h)
theorem f116_114 {f : Int} {fn : Nat} (hL : LI t D G) (ef : f = fn) (hf : 0 ≤ f ∧ f < G 28 14) (cont : ∀ l10 o11, wp S 116 103 [some qx, some (qs 0), some (qs 28), some (qs 29), some (qs 30), some (qs 31), some (qs 32), some (qs 33), some (qi l8), some (qi (f + 1)), some (qi l10), o11] [] t D Q) :
    ∀ (m : Nat) (p : Int) (o11 : Option qV), p + m = G 38 f → 0 ≤ p → wp S 116 114 [some qx, some (qs 0), some (qs 28), some (qs 29), some (qs 30), some (qs 31), some (qs 32), some (qs 33), some (qi l8), some (qi f), some (qi p), o11] [] t D Q := by
  obtain ⟨⟨kk, hX⟩, hR, hT, h9, hM, hG⟩ := id hL
  have hnf := hT.2.1
  have hpm := (hR.1.2.1 f hf.1 hf.2).2.2
  have hB := hT.2.2 fn (by omega)
  have eB : D 28 (4 + f) = G 38 f := by rw [ef]; exact hB.1.2
  intro m
  induction m with
  | zero =>
    intro p o11 hp h0
    apply lb116_114
    rw [eB]
    refine chk_i (by first | assumption | decide | omega) ?_
    refine chk_i (by first | assumption | decide | omega) ?_
    refine chk_i (by first | assumption | decide | omega) ?_
    refine ite_i (fun h => absurd h (by first | decide | omega)) (fun _ => ?_)
    exact cont _ _
  | succ m ih =>
    intro p o11 hp h0
    apply lb116_114
    rw [eB]
    refine chk_i (by first | assumption | decide | omega) ?_
    refine chk_i (by first | assumption | decide | omega) ?_
    refine chk_i (by first | assumption | decide | omega) ?_
    refine ite_i (fun _ => ?_) (fun h => absurd (by first | rfl | decide | omega) h)
    exact f116_128 hL hf ⟨h0, by omega⟩ (fun k => lb116_199 (ih (p + 1) _ (by omega) (by omega))) 5 0 rfl (Int.le_refl _)
theorem f116_103 (hL : LI t D G) (cont : ∀ l9 o10 o11, wp S 116 211 [some qx, some (qs 0), some (qs 28), some (qs 29), some (qs 30), some (qs 31), some (qs 32), some (qs 33), some (qi l8), some (qi l9), o10, o11] [] t D Q) :
    ∀ (m fn : Nat) (f : Int) (o10 o11 : Option qV), ((fn + m : Nat) : Int) = G 28 14 → f = fn → wp S 116 103 [some qx, some (qs 0), some (qs 28), some (qs 29), some (qs 30), some (qs 31), some (qs 32), some (qs 33), some (qi l8), some (qi f), o10, o11] [] t D Q := by
  obtain ⟨⟨kk, hX⟩, hR, hT, h9, hM, hG⟩ := id hL
  have hnf := hT.2.1
  intro m
  induction m with
  | zero =>
    intro fn f o10 o11 hf ef
    apply lb116_103
    rw [hT.1]
    refine chk_i (by first | assumption | decide | omega) ?_
    refine chk_i (by first | assumption | decide | omega) ?_
    refine ite_i (fun h => absurd h (by first | decide | omega)) (fun _ => ?_)
    exact cont _ _ _
  | succ m ih =>
    intro fn f o10 o11 hf ef
    have hpm := (hR.1.2.1 f (by omega) (by omega)).2.2
    apply lb116_103
    rw [hT.1]
    refine chk_i (by first | assumption | decide | omega) ?_
    refine chk_i (by first | assumption | decide | omega) ?_
    refine ite_i (fun _ => ?_) (fun h => absurd (by first | rfl | decide | omega) h)
    exact f116_114 hL ef (by omega) (fun l10 o11 => ih (fn + 1) (f + 1) _ _ (by omega) (by omega)) (G 38 f).toNat 0 _ (by omega) (Int.le_refl _)
theorem qand31 (x : Int) : 0 ≤ qand x 2147483647 ∧ qand x 2147483647 < 2147483648 := by
  unfold qand
  generalize Int32.ofInt x = a
  have hn : (a &&& Int32.ofInt 2147483647).toBitVec.toNat ≤ 2147483647 := by
    rw [Int32.toBitVec_and, BitVec.toNat_and]
    exact Nat.and_le_right
  have z : (a &&& Int32.ofInt 2147483647).toInt = (a &&& Int32.ofInt 2147483647).toBitVec.toNat := by
    show (a &&& Int32.ofInt 2147483647).toBitVec.toInt = _
    exact BitVec.toInt_eq_toNat_of_lt (by omega)
  rw [z]
  generalize (a &&& Int32.ofInt 2147483647).toBitVec.toNat = n at hn
  omega
/-- the thirty-six steps -/
theorem f116_214 (hS : SB S) {C1 C2 : Nat} (cont : ∀ t D G l9 o10 o11, LI t D G → t.2.2.1 ≤ C1 → t.2.2.2 ≤ C2 → wp S 116 363 [some qx, some (qs 0), some (qs 28), some (qs 29), some (qs 30), some (qs 31), some (qs 32), some (qs 33), some (qi l8), some (qi l9), o10, o11] [] t D Q) :
    ∀ (m : Nat) (j : Int) (t : qT) (D G : qD) (o10 o11 : Option qV), j + m = 36 → 0 ≤ j → LI t D G → t.2.2.1 + 1700 * m ≤ C1 → t.2.2.2 + 19500 * m ≤ C2 → wp S 116 214 [some qx, some (qs 0), some (qs 28), some (qs 29), some (qs 30), some (qs 31), some (qs 32), some (qs 33), some (qi l8), some (qi j), o10, o11] [] t D Q := by
  intro m
  induction m with
  | zero =>
    intro j t D G o10 o11 hj h0 hL h1 h2
    apply lb116_214
    refine chk_i (by first | assumption | decide | omega) ?_
    refine ite_i (fun h => absurd h (by first | decide | omega)) (fun _ => ?_)
    exact cont t D G j _ _ hL (by omega) (by omega)
  | succ m ih =>
    intro j t D G o10 o11 hj h0 hL h1 h2
    have h1' : t.2.2.1 + 1700 * m + 1700 ≤ C1 := by rw [Nat.mul_add, Nat.mul_one, ← Nat.add_assoc] at h1; exact h1
    have h2' : t.2.2.2 + 19500 * m + 19500 ≤ C2 := by rw [Nat.mul_add, Nat.mul_one, ← Nat.add_assoc] at h2; exact h2
    apply lb116_214
    refine chk_i (by first | assumption | decide | omega) ?_
    refine ite_i (fun _ => ?_) (fun h => absurd (by first | rfl | decide | omega) h)
    refine r96 (by omega) hS fun x => ?_
    refine r111 hL fun t1 D1 G1 hL1 a1 a2 => ?_
    refine chk_i (by decide) (ite_i (fun h => absurd h (by decide)) fun _ => ?_)
    refine r109 hL1 fun t2 D2 k2 => ?_
    have hL2 := hL1.kx k2 (Nat.le_refl _) (Nat.le_refl _)
    refine chk_i (by decide) (ite_i (fun h => absurd h (by decide)) fun _ => ?_)
    refine r113 hL2 hL2.2.2.1.2.1.1 fun t3 D3 k3 => ?_
    have hL3 := hL2.kx k3 (Nat.le_refl _) (Nat.le_refl _)
    refine chk_i (by decide) (ite_i (fun h => absurd h (by decide)) fun _ => ?_)
    refine r112 hL3 ?_
    refine chk_i (by decide) (ite_i (fun h => absurd h (by decide)) fun _ => ?_)
    have b2 := k2.1.2
    have b3 := k3.1.2
    have n1 : t3.2.2.1 ≤ t.2.2.1 + 58 := by omega
    have n2 : t3.2.2.2 ≤ t.2.2.2 + 1012 := by omega
    refine lb116_291 (chk_i (by omega) (chk_i (by omega) (ite_i (fun c9 => ?_) fun c9 => ?_)))
    · refine r108 hL3 fun t4 D4 k4 => ?_
      have hL4 := hL3.kx k4 (Nat.le_refl _) (Nat.le_refl _)
      have b4 := k4.1.2
      refine chk_i (by decide) (ite_i (fun h => absurd h (by decide)) fun _ => ?_)
      refine r97 (by decide) fun v v0 v1 => chk_i (by omega) ?_
      refine r96 (by omega) hS fun y => ?_
      refine r114 hL4 (by omega) (qand31 y) fun t5 D5 hL5 b5 b6 => ?_
      refine chk_i (by decide) (ite_i (fun h => absurd h (by decide)) fun _ => lb116_357 ?_)
      exact ih (j + 1) t5 D5 G1 _ _ (by omega) (by omega) hL5 (by omega) (by omega)
    · exact lb116_357 (ih (j + 1) t3 D3 G1 _ _ (by omega) (by omega) hL3 (by omega) (by omega))
theorem f116_363 {l9 : Int} {o10 o11 : Option qV} (hL : LI t D G) (q : ∀ t' D', t'.2.2.1 ≤ t.2.2.1 + 1812 → t'.2.2.2 ≤ t.2.2.2 + 25300 → Q 1 t' D') : wp S 116 363 [some qx, some (qs 0), some (qs 28), some (qs 29), some (qs 30), some (qs 31), some (qs 32), some (qs 33), some (qi l8), some (qi l9), o10, o11] [] t D Q := by
  have e0 := hL.2.2.1.1
  apply lb116_363
  rw [e0]
  refine r114 hL (by decide) (by decide) fun t1 D1 hL1 a1 a2 => ?_
  refine chk_i (by decide) (ite_i (fun h => absurd h (by decide)) fun _ => ?_)
  exact f116_386 hL1 rfl fun t' D' b1 b2 => q t' D' (by omega) (by omega)
/-- from the text on -/
theorem f116_53 {t0 : qT} {D0' G0 : qD} {n nf : Nat} {p l8 : Int} (hS : SB S) (e8 : l8 = n) (hnf : 1 ≤ nf ∧ nf ≤ 3) (hn : (n : Int) ≤ 62) (hB0 : D0' 28 0 = nf) (hP : PDP (D0' 30) (D0' 28) (D0' 29) n (nf - 1) p) (hB : D0' 28 (4 + ((nf - 1 : Nat) : Int)) = p) (hJ : SPL (D0' 30) t0 D0' G0 0) (hz : (∀ i, D0' 31 i = 0) ∧ (∀ i, D0' 32 i = 0) ∧ ∀ i, D0' 33 i = 0) (q : ∀ t' D', t'.2.2.1 ≤ t0.2.2.1 + 65000 → t'.2.2.2 ≤ t0.2.2.2 + 770000 → Q 1 t' D') : wp S 116 53 [some qx, some (qs 0), some (qs 28), some (qs 29), some (qs 30), some (qs 31), some (qs 32), some (qs 33), some (qi l8), none, none, none] [] t0 D0' Q := by
  have hn' : n ≤ 62 := by omega
  refine lb116_53 (lb100_0 (r100_2 (D0 := D0') (t0 := t0) e8 hn' hP.1 (fun t1 D1 G1 hs1 hk1 b1 b2 b3 => ?_) n 0 0 t0 D0' G0 (Nat.zero_add _) rfl hJ (fun _ _ _ => rfl) (Nat.le_refl _) (Nat.le_refl _) (Nat.le_refl _)))
  have n1 : t1.2.2.1 ≤ t0.2.2.1 + 1488 := by omega
  have n2 : t1.2.2.2 ≤ t0.2.2.2 + 37200 := Nat.le_trans b2 (Nat.add_le_add_left (Nat.mul_le_mul_left 600 hn') _)
  refine chk_i (by decide) (ite_i (fun h => absurd h (by decide)) fun _ => ?_)
  obtain ⟨⟨k1, hX1⟩, hR1, g1, g2, g3⟩ := hs1
  obtain ⟨s, hgood, hv, hsn, hTX, hTB, hkd⟩ := txt_of hnf hn hP hB hB0 g1 g2
  refine c70 hX1.1 hX1.2.1.1 fun t2 D2 kp2 c1 c2 => ?_
  have hX2 := hX1.kp hR1 kp2 (by omega)
  have h34 := hX1.1
  rw [hv, ← e8]
  refine chk_i (by omega) (chk_i (by omega) (ite_i (fun _ => ?_) fun h => absurd rfl h))
  refine wp_st fun hqs => ?_
  have h14 : (t2.1 1).1 = 4 := by rw [hqs.2.2.1 1 (by decide)]; rfl
  have hk2 : ∀ b, 28 ≤ b → b < 34 → D2 b = D0' b := fun b x y => ((kp2 b (by omega)).2.2).trans (hk1 b x y)
  refine x71 hX2 hR1 h14 (fun t3 D3 _ hno => absurd hgood (hno s)) fun t3 D3 s' nf' hg' hs' hkr hE => ?_
  have es : s' = s := Option.some.inj (hg'.1.symm.trans hgood.1)
  subst es
  have en : nf' = nf := by omega
  subst en
  have hgt := gE.tx (G := G1) (s := s') (nf := nf') hTX
  have htx := hgt.1
  have htxs := hgt.2
  have hxk := hE _ htx htxs
  have hrk := htx.rk hR1 (by rw [g3]; decide)
  have hd : ∀ b, 28 ≤ b → b < 34 → D3 b = D0' b := fun b x y => (hkr b x y).trans (hk2 b x y)
  have h42 : ∀ i, 9 ≤ i → i < 110 → gE G1 s' nf' 42 i = 0 := htx.2.2.2.2.2.1
  have hL : LI t3 D3 (gE G1 s' nf') := by
    refine ⟨hxk.1, hrk.1, ?_, fun i a b => ?_, ⟨fun j a b => ?_, ?_, fun i a b => ?_⟩, ?_, fun i a b => ?_⟩
    · rw [hd 28 (by decide) (by decide), hd 30 (by decide) (by decide)]; exact hTB
    · rw [hd 29 (by decide) (by decide)]; exact hkd i a b
    · rw [hd 31 (by decide) (by decide), hz.1, h42 _ (by omega) (by omega)]
    · rw [hd 31 (by decide) (by decide), hz.1, h42 _ (by omega) (by omega)]
    · rw [hd 32 (by decide) (by decide), hz.2.1, h42 _ (by omega) (by omega)]
    · rw [hd 33 (by decide) (by decide), hz.2.2, h42 _ (by omega) (by omega)]
    · rw [h42 _ (by omega) (by omega)] at b; omega
  have y3 := hxk.2.2
  have e0 : D3 28 0 = (nf' : Int) := by rw [hd 28 (by decide) (by decide)]; exact hB0
  have hnf0 : ((0 + nf' : Nat) : Int) = gE G1 s' nf' 28 14 := by rw [Nat.zero_add]; rfl
  rw [e0]
  have hz1 : 1 ≤ (nf' : Int) ∧ (nf' : Int) ≤ 3 := by omega
  generalize gE G1 s' nf' = G at *
  generalize (nf' : Int) = z at hz1
  refine chk_i (by omega) (chk_i (by omega) (ite_i (fun _ => ?_) fun h => absurd rfl h))
  refine r108 hL fun t4 D4 k4 => ?_
  have hL4 := hL.kx k4 (Nat.le_refl _) (Nat.le_refl _)
  have b4 := k4.1.2
  refine chk_i (by decide) (ite_i (fun h => absurd h (by decide)) fun _ => lb116_100 ?_)
  refine f116_103 hL4 (fun l9 o10 o11 => lb116_211 ?_) nf' 0 0 _ _ hnf0 rfl
  refine f116_214 hS (C1 := t4.2.2.1 + 61200) (C2 := t4.2.2.2 + 702000) (fun t5 D5 G5 l9 o10 o11 hL5 d1 d2 => ?_) 36 0 t4 D4 G _ _ rfl (Int.le_refl _) hL4 (Nat.le_refl _) (Nat.le_refl _)
  exact f116_363 hL5 fun t' D' e1 e2 => q t' D' (by omega) (by omega)
end LK
/-! ## every script: the law returns 1 -/
theorem eH_h0 : eH [] 0 = pz_h0 := by
  unfold eH pz_h0
  refine congr (congrArg Prod.mk (funext fun a => ?_)) rfl
  rw [List.getElem?_nil]; rfl
theorem law_42 (S : (Nat → Int32) × Nat) (hS : SB S) : wp S 116 42 [some qx, some (qs 0), some (qs 28), some (qs 29), some (qs 30), some (qs 31), some (qs 32), some (qs 33), none, none, none, none] [] t0 Dz (fun x t' _ => x = 1 ∧ t'.2.2.1 ≤ 70000 ∧ t'.2.2.2 ≤ 800000) := by
  refine lb116_42 (r98 hS fun n nf D' p hnf hn hB0 hP hB hD => ?_)
  refine f116_53 (G0 := D0) hS rfl hnf hn hB0 hP hB ⟨⟨16, XJ_0.sd fun b hb => hD b (by omega) (by omega) (by omega)⟩, RVs_0, by rw [D0_y (by decide)]; rfl, fun i a b => by omega, by rw [D0_y (by decide)]⟩ ⟨fun i => by rw [hD 31 (by decide) (by decide) (by decide)]; rfl, fun i => by rw [hD 32 (by decide) (by decide) (by decide)]; rfl, fun i => by rw [hD 33 (by decide) (by decide) (by decide)]; rfl⟩ fun t' D' a b => ⟨rfl, ?_, ?_⟩
  · exact Nat.le_trans a (by decide)
  · exact Nat.le_trans b (by decide)
