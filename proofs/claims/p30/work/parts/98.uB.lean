/-! ## the law compares: the machine, who would catch, what finished, all that stands -/
theorem sCl_s {sv N : Int → Int} {r : Int} : ∀ (m : Nat) (n v : Int), sCl sv N r (m + 1) n v = sReg sv N (n + m) r (sCl sv N r m n v) := by
  intro m
  induction m with
  | zero =>
    intro n v
    show sReg sv N n r v = sReg sv N (n + ((0 : Nat) : Int)) r v
    rw [show n + ((0 : Nat) : Int) = n by omega]
  | succ m ih =>
    intro n v
    have h := ih (n + 1) (sReg sv N n r v)
    show sCl sv N r (m + 1) (n + 1) (sReg sv N n r v) = _
    rw [h, show n + 1 + (m : Int) = n + ((m + 1 : Nat) : Int) by omega]
    rfl
theorem sCl_R {G : qD} (hR : RVs G) {k : Int} {n : Int} (hk : 0 ≤ k ∧ k < 4) (hn : 0 ≤ n ∧ n < G 42 13) : qR (sCl (G 34) (G 42) k (n + 1).toNat 0 (G 42 (9 + k))) := by
  have h := vTellFrame_R hR hn (w := 8 + k) (by omega)
  unfold vTellFrame at h
  rw [if_neg (by omega), show 8 + k - 8 = k by omega] at h
  exact h
theorem sLc_m1 {pm pd N : Int → Int} {ty : Int} : ∀ (k : Nat) (n fin : Int), 0 ≤ n → (sLc pm pd N ty k n fin).1 = -1 → (sLc pm pd N ty k n fin).2.1 = -1 := by
  intro k
  induction k with
  | zero => intro n fin _ _; rfl
  | succ k ih =>
    intro n fin hn h
    unfold sLc at h ⊢
    by_cases c : n < N 13
    · rw [if_pos c] at h ⊢
      by_cases c1 : (sLp pm pd N n ty 3 0 fin).1 = -1
      · rw [if_pos c1] at h ⊢; exact ih (n + 1) _ (by omega) h
      · rw [if_neg c1] at h
        have h : n = -1 := h
        omega
    · rw [if_neg c]
theorem sCat_m1 {pm pd N : Int → Int} {ty : Int} (h : (sCat pm pd N ty).1 = -1) : (sCat pm pd N ty).2.1 = -1 := sLc_m1 8 0 0 (Int.le_refl _) h
section LU
variable {S : (Nat → Int32) × Nat} {t t0 : qT} {D D0 G : qD} {Q : Int → qT → qD → Prop} {by_ : Nat}
theorem r109_88 {l7 n : Int} (hL : LI t D G) (hn : 0 ≤ n ∧ n < G 42 13) (h7 : l7 = 8 * (G 42 13 - 1 - n)) (cont : wp S 109 125 [some (qs 0), some (qs 28), some (qs 30), some (qs 31), some (qs 32), some (qr by_), some (qi n), some (qi l7), some (qi 0)] [] t D Q) : ∀ (m : Nat) (j : Int), j + m = 8 → 0 ≤ j → wp S 109 88 [some (qs 0), some (qs 28), some (qs 30), some (qs 31), some (qs 32), some (qr by_), some (qi n), some (qi l7), some (qi j)] [] t D Q := by
  obtain ⟨⟨k, hX⟩, hR, hT, h9, hM, hG⟩ := hL
  have hV := hR.2.1
  have h13 := hV.1
  intro m
  induction m with
  | zero =>
    intro j hj h0
    apply lb109_88
    refine chk_i (by first | assumption | decide | omega) ?_
    refine ite_i (fun h => absurd h (by first | decide | omega)) (fun _ => ?_)
    rw [show (0 : Int) = 0 from rfl]
    exact cont
  | succ m ih =>
    intro j hj h0
    apply lb109_88
    refine chk_i (by first | assumption | decide | omega) ?_
    refine ite_i (fun _ => ?_) (fun h => absurd (by first | rfl | decide | omega) h)
    refine x75 hX.q.1 hR (by omega) (by omega) ?_
    have ev : vFrame G n j = G 42 (sAt (G 42) n + j) := by
      unfold vFrame vTellFrame
      rw [if_neg (by omega), if_neg (by omega), if_pos (by omega)]
    have ew : D 32 (l7 + j) = G 42 (sAt (G 42) n + j) := by
      rw [hM.2.2 _ (by omega) (by omega)]
      congr 1
      unfold sAt; omega
    have hq : qR (G 42 (sAt (G 42) n + j)) := hV.2.2.2.2 _ (by unfold sAt; omega) (by unfold sAt; omega)
    rw [ev, ew]
    exact chk_i (by omega) (chk_i hq (chk_i hq (ite_i (fun _ => ih (j + 1) (by omega) (by omega)) fun h => absurd rfl h)))
theorem r109_125 {l7 n : Int} (hL : LI t D G) (hby : AR t by_ 4) (hn : 0 ≤ n ∧ n < G 42 13) (hv : ∀ k, 0 ≤ k → k < 4 → D by_ k = sCl (G 34) (G 42) k (n + 1).toNat 0 (G 42 (9 + k))) (cont : ∀ o7 o8, wp S 109 47 [some (qs 0), some (qs 28), some (qs 30), some (qs 31), some (qs 32), some (qr by_), some (qi (n + 1)), o7, o8] [] t D Q) : ∀ (m : Nat) (j : Int), j + m = 4 → 0 ≤ j → wp S 109 125 [some (qs 0), some (qs 28), some (qs 30), some (qs 31), some (qs 32), some (qr by_), some (qi n), some (qi l7), some (qi j)] [] t D Q := by
  obtain ⟨⟨k, hX⟩, hR, hT, h9, hM, hG⟩ := hL
  have hV := hR.2.1
  have h13 := hV.1
  have hB1 := hby.k1
  have hB2 : (t.1 by_).2 = 4 := by rw [hby.1]
  intro m
  induction m with
  | zero =>
    intro j hj h0
    apply lb109_125
    refine chk_i (by first | assumption | decide | omega) ?_
    refine ite_i (fun h => absurd h (by first | decide | omega)) (fun _ => ?_)
    exact cont _ _
  | succ m ih =>
    intro j hj h0
    apply lb109_125
    refine chk_i (by first | assumption | decide | omega) ?_
    refine ite_i (fun _ => ?_) (fun h => absurd (by first | rfl | decide | omega) h)
    refine x75 hX.q.1 hR (by omega) (by omega) ?_
    have ev : vFrame G n (8 + j) = sCl (G 34) (G 42) j (n + 1).toNat 0 (G 42 (9 + j)) := by
      unfold vFrame vTellFrame
      rw [if_neg (by omega), if_neg (by omega), if_neg (by omega), show 8 + j - 8 = j by omega]
    have hq := sCl_R hR (k := j) (by omega) hn
    rw [ev, hv j h0 (by omega)]
    exact chk_i hB1 (chk_i (by omega) (chk_i hq (chk_i hq (ite_i (fun _ => ih (j + 1) (by omega) (by omega)) fun h => absurd rfl h))))
theorem r109_47 (hL : LI t0 D0 G) (hby : by_ = t0.2.2.1) (q : ∀ t' D', KX by_ by_ t0 t' D0 D' 17 180 → Q 1 t' D') : ∀ (m : Nat) (n : Int) (t : qT) (D : qD) (c s : Nat) (o7 o8 : Option qV), n + m = G 42 13 → 0 ≤ n → KX by_ by_ t0 t D0 D c s → AR t by_ 4 → c + 2 * m ≤ 17 → s + 22 * m ≤ 180 → (∀ k, 0 ≤ k → k < 4 → D by_ k = sCl (G 34) (G 42) k n.toNat 0 (G 42 (9 + k))) → wp S 109 47 [some (qs 0), some (qs 28), some (qs 30), some (qs 31), some (qs 32), some (qr by_), some (qi n), o7, o8] [] t D Q := by
  intro m
  induction m with
  | zero =>
    intro n t D c s o7 o8 hn h0 hk hA hc hs hv
    have hL' := hL.kx hk (by omega) (by omega)
    obtain ⟨⟨k, hX⟩, hR, hT, h9, hM, hG⟩ := hL'
    have h13 := hR.2.1.1
    apply lb109_47
    rw [hM.2.1]
    refine chk_i (by first | assumption | decide | omega) ?_
    refine chk_i (by first | assumption | decide | omega) ?_
    refine ite_i (fun h => absurd h (by first | decide | omega)) (fun _ => ?_)
    refine x93 hX.q hR (by decide) ?_
    have ev : vCount G 2 = G 42 13 := rfl
    rw [ev, hM.2.1]
    refine chk_i (by omega) (chk_i (by omega) (ite_i (fun _ => ?_) fun h => absurd rfl h))
    refine x75 hX.q.1 hR (by omega) (by decide) ?_
    have ev2 : vFrame G (G 42 13) 0 = -101 := by unfold vFrame; exact if_pos (by omega)
    rw [ev2]
    exact chk_i (by decide) (ite_i (fun _ => q t D (hk.w (by omega) (by omega))) fun h => absurd rfl h)
  | succ m ih =>
    intro n t D c s o7 o8 hn h0 hk hA hc hs hv
    have hL' := hL.kx hk (by omega) (by omega)
    obtain ⟨⟨k, hX⟩, hR, hT, h9, hM, hG⟩ := id hL'
    have h13 := hR.2.1.1
    have hAl := hA.2.2
    refine wp_st fun hq => ?_
    have h32 : AR t 32 64 := AR.s hq (by decide) rfl
    have h34 := hX.1
    apply lb109_47
    rw [hM.2.1]
    refine chk_i (by first | assumption | decide | omega) ?_
    refine chk_i (by first | assumption | decide | omega) ?_
    refine ite_i (fun _ => ?_) (fun h => absurd (by first | rfl | decide | omega) h)
    refine wp_cg (L := [some (qs 28), some (qs 30), some (qr 32), some (qi (G 42 13 - 1 - n)), some (qr by_), none, none]) (st := []) rfl rfl ?_
    have h0n := hL.1
    obtain ⟨k0, hX0⟩ := h0n
    have h034 := hX0.1
    refine r104 hT hR.1 h32 hA (by decide) (by omega) hR.2.1 ⟨h0, by omega⟩ hM.2.2 fun t1 D1 k1 g1 => ?_
    have hk1 : KX by_ by_ t0 t1 D0 D1 (c + 2) (s + 22) := hk.tr k1 (Or.inl rfl) (Or.inl rfl) (Nat.le_refl _) (Nat.le_refl _)
    have hL1 := hL.kx hk1 (by omega) (by omega)
    have hv1 : ∀ k, 0 ≤ k → k < 4 → D1 by_ k = sCl (G 34) (G 42) k (n + 1).toNat 0 (G 42 (9 + k)) := by
      intro k a b
      rw [g1 k, if_pos ⟨a, b⟩, hv k a b, show (n + 1).toNat = n.toNat + 1 by omega, sCl_s, show (0 : Int) + (n.toNat : Nat) = n by omega]
    refine r109_88 hL1 ⟨h0, by omega⟩ rfl ?_ 8 0 rfl (Int.le_refl _)
    refine r109_125 hL1 (hA.k k1) ⟨h0, by omega⟩ hv1 (fun o7 o8 => ?_) 4 0 rfl (Int.le_refl _)
    exact ih (n + 1) t1 D1 _ _ _ _ (by omega) (by omega) hk1 (hA.k k1) (by omega) (by omega) hv1
theorem r109_8 (hL : LI t0 D0 G) (hby : by_ = t0.2.2.1) (q : ∀ t' D', KX by_ by_ t0 t' D0 D' 17 180 → Q 1 t' D') : ∀ (m : Nat) (j : Int) (D : qD), j + m = 4 → 0 ≤ j → KX by_ by_ t0 t D0 D 1 4 → AR t by_ 4 → (∀ i, 0 ≤ i → i < j → D by_ i = G 42 (9 + i)) → wp S 109 8 [some (qs 0), some (qs 28), some (qs 30), some (qs 31), some (qs 32), some (qr by_), some (qi j), none, none] [] t D Q := by
  intro m
  induction m with
  | zero =>
    intro j D hj h0 hk hA hv
    have h13 := hL.2.1.2.1.1
    apply lb109_8
    refine chk_i (by first | assumption | decide | omega) ?_
    refine ite_i (fun h => absurd h (by first | decide | omega)) (fun _ => ?_)
    refine r109_47 hL hby q (G 42 13).toNat 0 t D 1 4 _ _ (by omega) (Int.le_refl _) hk hA (by omega) (by omega) fun k a b => ?_
    rw [hv k a (by omega)]; rfl
  | succ m ih =>
    intro j D hj h0 hk hA hv
    have hL' := hL.kx hk (by omega) (by omega)
    obtain ⟨⟨k, hX⟩, hR, hT, h9, hM, hG⟩ := id hL'
    have hB1 := hA.k1
    have hB2 : (t.1 by_).2 = 4 := by rw [hA.1]
    apply lb109_8
    refine chk_i (by first | assumption | decide | omega) ?_
    refine ite_i (fun _ => ?_) (fun h => absurd (by first | rfl | decide | omega) h)
    refine x76 hX.q.1 (by omega) ?_
    have ev : vReg G j = G 42 (9 + j) := if_neg (by omega)
    have hq : qR (G 42 (9 + j)) := hR.2.1.2.2.2.2 _ (by omega) (by omega)
    rw [ev, hM.1 j h0 (by omega)]
    refine chk_i (by omega) (chk_i hq (chk_i hq (ite_i (fun _ => chk_i (by omega) (chk_i hB1 (chk_i (by omega) ?_))) fun h => absurd rfl h)))
    refine ih (j + 1) _ (by omega) (by omega) ?_ hA fun i a b => ?_
    · exact hk.tr (KX.d (a1 := by_) (a2 := by_) fun b h1 _ => by rw [up_eq, upr_n h1]) (Or.inl rfl) (Or.inl rfl) (by omega) (by omega)
    · rw [up_eq, upr_s]
      by_cases c : i = j
      · rw [c, ui_s]
      · rw [ui_n c]; exact hv i a (by omega)
/-- the machine, compared -/
theorem r109 (hL : LI t D G) (q : ∀ t' D', KX t.2.2.1 t.2.2.1 t t' D D' 17 180 → Q 1 t' D') : wp S 109 0 [some (qs 0), some (qs 28), some (qs 30), some (qs 31), some (qs 32), none, none, none, none] [] t D Q := by
  obtain ⟨k, hX⟩ := hL.1
  have h34 := hX.1
  exact lb109_0 (r109_8 hL rfl q 4 0 _ rfl (Int.le_refl _) KX.nw (AR.nw (by omega)) (fun i a b => by omega))
/-- what finished -/
theorem r112_15 (hL : LI t D G) (q : Q 1 t D) : ∀ (m : Nat) (j : Int), j + m = G 42 78 → 0 ≤ j → wp S 112 15 [some (qs 0), some (qs 33), some (qi j)] [] t D Q := by
  obtain ⟨⟨k, hX⟩, hR, hT, h9, hM, hG⟩ := hL
  have h78 := hR.2.1.2.2.2.1
  intro m
  induction m with
  | zero =>
    intro j hj h0
    apply lb112_15
    rw [hG.1]
    refine chk_i (by first | assumption | decide | omega) ?_
    refine chk_i (by first | assumption | decide | omega) ?_
    refine ite_i (fun h => absurd h (by first | decide | omega)) (fun _ => ?_)
    exact q
  | succ m ih =>
    intro j hj h0
    apply lb112_15
    rw [hG.1]
    refine chk_i (by first | assumption | decide | omega) ?_
    refine chk_i (by first | assumption | decide | omega) ?_
    refine ite_i (fun _ => ?_) (fun h => absurd (by first | rfl | decide | omega) h)
    refine x86 hX.q.1 hR (by omega) ?_
    have ev : vFin G j = G 42 (79 + j) := by unfold vFin; rw [if_neg (by omega), if_neg (by omega)]
    have hq : qR (G 42 (79 + j)) := hR.2.1.2.2.2.2 _ (by omega) (by omega)
    rw [ev, hG.2 j h0 (by omega)]
    exact chk_i (by omega) (chk_i hq (chk_i hq (ite_i (fun _ => ih (j + 1) (by omega) (by omega)) fun h => absurd rfl h)))
theorem r112 (hL : LI t D G) (q : Q 1 t D) : wp S 112 0 [some (qs 0), some (qs 33), none] [] t D Q := by
  have hL' := hL
  obtain ⟨⟨k, hX⟩, hR, hT, h9, hM, hG⟩ := hL
  have h78 := hR.2.1.2.2.2.1
  apply lb112_0
  refine x86 hX.q.1 hR (by decide) ?_
  have ev : vFin G (-1) = G 42 78 := if_pos rfl
  rw [ev, hG.1]
  exact chk_i (by omega) (chk_i (by omega) (ite_i (fun _ => r112_15 hL' q (G 42 78).toNat 0 (by omega) (Int.le_refl _)) fun h => absurd rfl h))
/-- who would catch -/
theorem r113_12 (hL : LI t0 D0 G) (hnf : 1 ≤ G 28 14) (hby : by_ = t0.2.2.1) (hA : AR t by_ 32) (q : ∀ t' D', KX by_ by_ t0 t' D0 D' 1 32 → Q 1 t' D') : ∀ (m : Nat) (j lo : Int) (D : qD), j + m = 5 → 0 ≤ j → qR lo → KX by_ by_ t0 t D0 D 1 32 → sLo G m j lo = sLo G 5 0 0 → wp S 113 12 [some (qs 0), some (qs 28), some (qs 29), some (qs 30), some (qs 31), some (qs 32), some (qr by_), some (qi lo), some (qi j)] [] t D Q := by
  have hA1 := hA.k1
  have hA2 : (t.1 by_).2 = 32 := by rw [hA.1]
  have hnz : ¬ G 28 14 = 0 := by omega
  intro m
  induction m with
  | zero =>
    intro j lo D hj h0 hlo hk hs
    have hL' := hL.kx hk (by omega) (by omega)
    obtain ⟨⟨k, hX⟩, hR, hT, h9, hM, hG⟩ := id hL'
    apply lb113_12
    refine chk_i (by first | assumption | decide | omega) ?_
    refine ite_i (fun h => absurd h (by first | decide | omega)) (fun _ => ?_)
    refine x85 hX.q.1 hR ?_
    have ev : vLoose G = lo := by
      unfold vLoose
      rw [if_neg hnz, ← hs]; rfl
    rw [ev]
    exact chk_i hlo (chk_i hlo (ite_i (fun _ => q t D hk) fun h => absurd rfl h))
  | succ m ih =>
    intro j lo D hj h0 hlo hk hs
    have hL' := hL.kx hk (by omega) (by omega)
    obtain ⟨⟨k, hX⟩, hR, hT, h9, hM, hG⟩ := id hL'
    have h0n := hL.1
    obtain ⟨k0, hX0⟩ := h0n
    have h034 := hX0.1
    have hV := hR.2.1
    refine wp_st fun hq => ?_
    have h31 : AR t 31 6 := AR.s hq (by decide) rfl
    have h32 : AR t 32 64 := AR.s hq (by decide) rfl
    apply lb113_12
    refine chk_i (by first | assumption | decide | omega) ?_
    refine ite_i (fun _ => ?_) (fun h => absurd (by first | rfl | decide | omega) h)
    refine wp_cg (L := [some (qs 28), some (qs 29), some (qs 30), some (qr 31), some (qr 32), some (qi j), some (qr by_), none, none, none, none, none, none]) (st := []) rfl rfl ?_
    refine r106 hT hR.1 hV h31 h32 hA (by omega) (by omega) h9 hM (by omega) fun D1 g1 g2 g3 g4 g5 => ?_
    have hk1 : KX by_ by_ t0 t D0 D1 1 32 := hk.tr (KX.d (a1 := by_) (a2 := by_) fun b h _ => g1 b h) (Or.inl rfl) (Or.inl rfl) (by omega) (by omega)
    have hL1 := hL.kx hk1 (by omega) (by omega)
    obtain ⟨⟨k1, hX1⟩, -, -, -, -, -⟩ := id hL1
    have ev0 : vSearch G j 0 = (sCat (G 38) (G 40) (G 42) j).1 := by
      unfold vSearch vSea
      rw [if_neg (by omega), if_neg (by decide), if_neg hnz]
      by_cases c : (sCat (G 38) (G 40) (G 42) j).1 = -1
      · rw [if_pos c, c]
      · rw [if_neg c, if_pos rfl]
    have hq0 : qR (vSearch G j 0) := by unfold vSearch; rw [if_neg (by omega), if_neg (by decide), if_neg hnz]; exact vSea_R hV j 0
    have hq1 : qR (vSearch G j 1) := by unfold vSearch; rw [if_neg (by omega), if_neg (by decide), if_neg hnz]; exact vSea_R hV j 1
    have hq2 : qR (vSearch G j 2) := by unfold vSearch; rw [if_neg (by omega), if_neg (by decide), if_neg hnz]; exact vSea_R hV j 2
    have es : sLo G (m + 1) j lo = sLo G m (j + 1) (if (sCat (G 38) (G 40) (G 42) j).1 = -1 then qor lo (qshl 1 j) else lo) := rfl
    rw [es] at hs
    have hcat : (sCat (G 38) (G 40) (G 42) j).1 = -1 → (sCat (G 38) (G 40) (G 42) j).2.1 = -1 := sCat_m1
    by_cases c : (sCat (G 38) (G 40) (G 42) j).1 = -1
    · have ev1 : vSearch G j 1 = (sCat (G 38) (G 40) (G 42) j).2.1 := by
        unfold vSearch vSea
        rw [if_neg (by omega), if_neg (by decide), if_neg hnz, if_pos c, hcat c]
      have ev2 : vSearch G j 2 = -1 := by
        unfold vSearch vSea
        rw [if_neg (by omega), if_neg (by decide), if_neg hnz, if_pos c]
      rw [if_pos c] at hs
      rw [ev0] at hq0
      rw [ev1] at hq1
      rw [g2]
      refine chk_i hA1 (chk_i (by omega) (chk_i hq0 (ite_i (fun _ => ?_) fun h => absurd (by omega) h)))
      refine x84 hX1.q.1 hR (by omega) (by decide) ?_
      rw [ev0, g2]
      refine chk_i hA1 (chk_i (by omega) (chk_i hq0 (chk_i hq0 (ite_i (fun _ => ?_) fun h => absurd rfl h))))
      refine x84 hX1.q.1 hR (by omega) (by decide) ?_
      rw [ev1, g3]
      refine chk_i hA1 (chk_i (by omega) (chk_i hq1 (chk_i hq1 (ite_i (fun _ => ?_) fun h => absurd rfl h))))
      refine x84 hX1.q.1 hR (by omega) (by decide) ?_
      rw [ev2, g2]
      refine chk_i hA1 (chk_i (by omega) (chk_i hq0 (ite_i (fun _ => ?_) fun h => absurd (by omega) h)))
      refine chk_i (by decide) (ite_i (fun _ => ?_) fun h => absurd rfl h)
      exact ih (j + 1) _ D1 (by omega) (by omega) qor_R hk1 hs
    · have ev1 : vSearch G j 1 = (sCat (G 38) (G 40) (G 42) j).2.1 := by
        unfold vSearch vSea
        rw [if_neg (by omega), if_neg (by decide), if_neg hnz, if_neg c, if_neg (by decide), if_pos rfl]
      have ev2 : vSearch G j 2 = (sCat (G 38) (G 40) (G 42) j).2.2 := by
        unfold vSearch vSea
        rw [if_neg (by omega), if_neg (by decide), if_neg hnz, if_neg c, if_neg (by decide), if_neg (by decide)]
      have hcp := sCat_cp hV j c
      rw [if_neg c] at hs
      rw [ev0] at hq0
      rw [ev1] at hq1
      rw [ev2] at hq2
      rw [g2]
      refine chk_i hA1 (chk_i (by omega) (chk_i hq0 (ite_i (fun h => absurd h (by omega)) fun _ => ?_)))
      refine x84 hX1.q.1 hR (by omega) (by decide) ?_
      rw [ev0, g2]
      refine chk_i hA1 (chk_i (by omega) (chk_i hq0 (chk_i hq0 (ite_i (fun _ => ?_) fun h => absurd rfl h))))
      refine x84 hX1.q.1 hR (by omega) (by decide) ?_
      rw [ev1, g3]
      refine chk_i hA1 (chk_i (by omega) (chk_i hq1 (chk_i hq1 (ite_i (fun _ => ?_) fun h => absurd rfl h))))
      refine x84 hX1.q.1 hR (by omega) (by decide) ?_
      rw [ev2, g2]
      refine chk_i hA1 (chk_i (by omega) (chk_i hq0 (ite_i (fun h => absurd h (by omega)) fun _ => ?_)))
      rw [g4]
      refine chk_i hA1 (chk_i (by omega) (chk_i hq2 (chk_i hq2 (ite_i (fun _ => ?_) fun h => absurd rfl h))))
      exact ih (j + 1) _ D1 (by omega) (by omega) hlo hk1 hs
theorem r113 (hL : LI t D G) (hnf : 1 ≤ G 28 14) (q : ∀ t' D', KX t.2.2.1 t.2.2.1 t t' D D' 1 32 → Q 1 t' D') : wp S 113 0 [some (qs 0), some (qs 28), some (qs 29), some (qs 30), some (qs 31), some (qs 32), none, none, none] [] t D Q := by
  obtain ⟨k, hX⟩ := hL.1
  have h34 := hX.1
  exact lb113_0 (r113_12 hL hnf rfl (AR.nw (by omega)) q 5 0 0 _ rfl (Int.le_refl _) (by decide) KX.nw rfl)
end LU
