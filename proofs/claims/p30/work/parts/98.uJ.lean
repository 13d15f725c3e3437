/-! ## the law's last calls: what is refused -/
section LFin
variable {S : (Nat → Int32) × Nat} {t : qT} {D G : qD} {Q : Int → qT → qD → Prop} {l8 l9 : Int} {o10 o11 : Option qV}
theorem f116_710 (hL : LI t D G) (q : ∀ t' D', t'.2.2.1 ≤ t.2.2.1 + 96 → t'.2.2.2 ≤ t.2.2.2 + 2400 → Q 1 t' D') : wp S 116 710 [some qx, some (qs 0), some (qs 28), some (qs 29), some (qs 30), some (qs 31), some (qs 32), some (qs 33), some (qi l8), some (qi l9), o10, o11] [] t D Q := by
  obtain ⟨⟨k, hX⟩, hR, hT, h9, hM, hG⟩ := id hL
  have hC := hR.1
  have hV := hR.2.1
  have h13 := hV.1
  have h78 := hV.2.2.2.1
  have hnf := hT.2.1
  have hB := hT.2.2 0 (by omega)
  have hpm := hB.2.1.1
  have eB : D 28 4 = G 38 0 := hB.1.2
  have hp0 : 0 ≤ G 38 0 ∧ G 38 0 ≤ 3 := ⟨hpm.2.2.1, hpm.2.2.2⟩
  have hL0 := hL
  have hX0 := hX
  apply lb116_710
  refine x90 hX0 hR (by decide) (by decide) (by decide) fun t1 D1 w1 => ?_
  have ev1 : vDrawn G 0 0 0 = -102 := by unfold vDrawn; exact if_pos (by decide)
  rw [ev1]
  have hL1 := hL0.xk w1
  obtain ⟨⟨k1, hX1⟩, -, -, -, -, -⟩ := id hL1
  have y1 := w1.2.2
  refine chk_i (show qR (-102) by decide) (ite_i (fun _ => ?_) fun h => absurd rfl h)
  apply lb116_722
  refine x90 hX1 hR (by decide) (by decide) (by decide) fun t2 D2 w2 => ?_
  have ev2 : vDrawn G 100 0 0 = -102 := by unfold vDrawn; exact if_pos (by decide)
  rw [ev2]
  have hL2 := hL1.xk w2
  obtain ⟨⟨k2, hX2⟩, -, -, -, -, -⟩ := id hL2
  have y2 := w2.2.2
  refine chk_i (show qR (-102) by decide) (ite_i (fun _ => ?_) fun h => absurd rfl h)
  apply lb116_735
  refine x90 hX2 hR (by decide) (by decide) (by decide) fun t3 D3 w3 => ?_
  have ev3 : vDrawn G 1 (-1) 0 = -102 := by unfold vDrawn; rw [if_neg (by decide)]; exact if_pos (by decide)
  rw [ev3]
  have hL3 := hL2.xk w3
  obtain ⟨⟨k3, hX3⟩, -, -, -, -, -⟩ := id hL3
  have y3 := w3.2.2
  refine chk_i (show qR (-102) by decide) (ite_i (fun _ => ?_) fun h => absurd rfl h)
  apply lb116_747
  refine x90 hX3 hR (by decide) (by decide) (by decide) fun t4 D4 w4 => ?_
  have ev4 : vDrawn G 1 0 3 = -102 := by unfold vDrawn; rw [if_neg (by decide), if_neg (by decide)]; exact if_pos (by decide)
  rw [ev4]
  have hL4 := hL3.xk w4
  obtain ⟨⟨k4, hX4⟩, -, -, -, -, -⟩ := id hL4
  have y4 := w4.2.2
  refine chk_i (show qR (-102) by decide) (ite_i (fun _ => ?_) fun h => absurd rfl h)
  exact q t4 D4 (by omega) (by omega)
theorem f116_640 (hL : LI t D G) (e9 : l9 = G 28 14) (q : ∀ t' D', t'.2.2.1 ≤ t.2.2.1 + 96 → t'.2.2.2 ≤ t.2.2.2 + 2400 → Q 1 t' D') : wp S 116 640 [some qx, some (qs 0), some (qs 28), some (qs 29), some (qs 30), some (qs 31), some (qs 32), some (qs 33), some (qi l8), some (qi l9), o10, o11] [] t D Q := by
  subst e9
  obtain ⟨⟨k, hX⟩, hR, hT, h9, hM, hG⟩ := id hL
  have hC := hR.1
  have hV := hR.2.1
  have h13 := hV.1
  have h78 := hV.2.2.2.1
  have hnf := hT.2.1
  have hB := hT.2.2 0 (by omega)
  have hpm := hB.2.1.1
  have eB : D 28 4 = G 38 0 := hB.1.2
  have hp0 : 0 ≤ G 38 0 ∧ G 38 0 ≤ 3 := ⟨hpm.2.2.1, hpm.2.2.2⟩
  apply lb116_640
  refine x84 hX.q.1 hR (by decide) (by decide) ?_
  have ev640 : vSearch G 5 0 = -102 := by unfold vSearch; exact if_pos (by decide)
  rw [ev640]
  refine chk_i (show qR (-102) by decide) (ite_i (fun _ => ?_) fun h => absurd rfl h)
  apply lb116_651
  refine x84 hX.q.1 hR (by decide) (by decide) ?_
  have ev651 : vSearch G 0 3 = -102 := by unfold vSearch; rw [if_neg (by decide)]; exact if_pos (by decide)
  rw [ev651]
  refine chk_i (show qR (-102) by decide) (ite_i (fun _ => ?_) fun h => absurd rfl h)
  apply lb116_662
  refine x86 hX.q.1 hR (by decide) ?_
  have ev662 : vFin G (-2) = -101 := by unfold vFin; rw [if_neg (by decide)]; exact if_pos (by omega)
  rw [ev662]
  refine chk_i (show qR (-101) by decide) (ite_i (fun _ => ?_) fun h => absurd rfl h)
  apply lb116_673
  rw [hG.1]
  refine x86 hX.q.1 hR (by omega) ?_
  have ev673 : vFin G (G 42 78) = -101 := by unfold vFin; rw [if_neg (by omega)]; exact if_pos (by omega)
  rw [ev673]
  refine chk_i (show qR (-101) by decide) (ite_i (fun _ => ?_) fun h => absurd rfl h)
  apply lb116_686
  refine x87 hX.q.1 hR (by omega) (by decide) ?_
  have ev686 : vSame G (G 28 14) 0 = -101 := by unfold vSame; exact if_pos (by omega)
  rw [ev686]
  refine chk_i (show qR (-101) by decide) (ite_i (fun _ => ?_) fun h => absurd rfl h)
  apply lb116_698
  refine x87 hX.q.1 hR (by decide) (by omega) ?_
  have ev698 : vSame G 0 (G 28 14) = -101 := by unfold vSame; rw [if_neg (by omega)]; exact if_pos (by omega)
  rw [ev698]
  refine chk_i (show qR (-101) by decide) (ite_i (fun _ => ?_) fun h => absurd rfl h)
  exact f116_710 hL q
theorem f116_540 (hL : LI t D G) (e9 : l9 = G 28 14) (q : ∀ t' D', t'.2.2.1 ≤ t.2.2.1 + 312 → t'.2.2.2 ≤ t.2.2.2 + 7800 → Q 1 t' D') : wp S 116 540 [some qx, some (qs 0), some (qs 28), some (qs 29), some (qs 30), some (qs 31), some (qs 32), some (qs 33), some (qi l8), some (qi l9), o10, o11] [] t D Q := by
  subst e9
  obtain ⟨⟨k, hX⟩, hR, hT, h9, hM, hG⟩ := id hL
  have hC := hR.1
  have hV := hR.2.1
  have h13 := hV.1
  have h78 := hV.2.2.2.1
  have hnf := hT.2.1
  have hB := hT.2.2 0 (by omega)
  have hpm := hB.2.1.1
  have eB : D 28 4 = G 38 0 := hB.1.2
  have hp0 : 0 ≤ G 38 0 ∧ G 38 0 ≤ 3 := ⟨hpm.2.2.1, hpm.2.2.2⟩
  have hL0 := hL
  have hX0 := hX
  apply lb116_540
  refine x77 hX0 hR (by omega) fun t1 D1 w1 => ?_
  have ep1 : pCall G (G 28 14) = (-101, G) := by unfold pCall; exact if_pos (by omega)
  rw [ep1] at w1 ⊢
  have hL1 := hL0.xk w1
  obtain ⟨⟨k1, hX1⟩, -, -, -, -, -⟩ := id hL1
  have y1 := w1.2.2
  refine chk_i (show qR (-101) by decide) (ite_i (fun _ => ?_) fun h => absurd rfl h)
  apply lb116_551
  refine x78 hX1 hR (by decide) fun t2 D2 w2 => ?_
  have ep2 : pGo G 0 = (-102, G) := by unfold pGo; exact if_pos (by decide)
  rw [ep2] at w2 ⊢
  have hL2 := hL1.xk w2
  obtain ⟨⟨k2, hX2⟩, -, -, -, -, -⟩ := id hL2
  have y2 := w2.2.2
  refine chk_i (show qR (-102) by decide) (ite_i (fun _ => ?_) fun h => absurd rfl h)
  apply lb116_561
  refine x78 hX2 hR (by decide) fun t3 D3 w3 => ?_
  have ep3 : pGo G 10 = (-102, G) := by unfold pGo; exact if_pos (by decide)
  rw [ep3] at w3 ⊢
  have hL3 := hL2.xk w3
  obtain ⟨⟨k3, hX3⟩, -, -, -, -, -⟩ := id hL3
  have y3 := w3.2.2
  refine chk_i (show qR (-102) by decide) (ite_i (fun _ => ?_) fun h => absurd rfl h)
  apply lb116_572
  refine x79 hX3 hR (by decide) (by decide) fun t4 D4 w4 => ?_
  have ep4 : pSet G 4 0 = (-101, G) := by unfold pSet; exact if_pos (by decide)
  rw [ep4] at w4 ⊢
  have hL4 := hL3.xk w4
  obtain ⟨⟨k4, hX4⟩, -, -, -, -, -⟩ := id hL4
  have y4 := w4.2.2
  refine chk_i (show qR (-101) by decide) (ite_i (fun _ => ?_) fun h => absurd rfl h)
  apply lb116_583
  refine x79 hX4 hR (by decide) (by decide) fun t5 D5 w5 => ?_
  have ep5 : pSet G 0 1000 = (-102, G) := by unfold pSet; rw [if_neg (by decide)]; exact if_pos (by decide)
  rw [ep5] at w5 ⊢
  have hL5 := hL4.xk w5
  obtain ⟨⟨k5, hX5⟩, -, -, -, -, -⟩ := id hL5
  have y5 := w5.2.2
  refine chk_i (show qR (-102) by decide) (ite_i (fun _ => ?_) fun h => absurd rfl h)
  apply lb116_596
  refine x79 hX5 hR (by decide) (by decide) fun t6 D6 w6 => ?_
  have ep6 : pSet G 0 (-1) = (-102, G) := by unfold pSet; rw [if_neg (by decide)]; exact if_pos (by decide)
  rw [ep6] at w6 ⊢
  have hL6 := hL5.xk w6
  obtain ⟨⟨k6, hX6⟩, -, -, -, -, -⟩ := id hL6
  have y6 := w6.2.2
  refine chk_i (show qR (-102) by decide) (ite_i (fun _ => ?_) fun h => absurd rfl h)
  apply lb116_607
  refine x81 hX6 hR (by decide) fun t7 D7 w7 => ?_
  have ep7 : pRaise G 5 = (-102, G) := by unfold pRaise; exact if_pos (by decide)
  rw [ep7] at w7 ⊢
  have hL7 := hL6.xk w7
  obtain ⟨⟨k7, hX7⟩, -, -, -, -, -⟩ := id hL7
  have y7 := w7.2.2
  refine chk_i (show qR (-102) by decide) (ite_i (fun _ => ?_) fun h => absurd rfl h)
  apply lb116_617
  refine x81 hX7 hR (by decide) fun t8 D8 w8 => ?_
  have ep8 : pRaise G (-1) = (-102, G) := by unfold pRaise; exact if_pos (by decide)
  rw [ep8] at w8 ⊢
  have hL8 := hL7.xk w8
  obtain ⟨⟨k8, hX8⟩, -, -, -, -, -⟩ := id hL8
  have y8 := w8.2.2
  refine chk_i (show qR (-102) by decide) (ite_i (fun _ => ?_) fun h => absurd rfl h)
  apply lb116_627
  refine x82 hX8 hR (by omega) (by decide) (by decide) fun t9 D9 w9 => ?_
  have ep9 : pChange G (G 28 14) 0 0 = (-101, G) := by unfold pChange; exact if_pos (by omega)
  rw [ep9] at w9 ⊢
  have hL9 := hL8.xk w9
  obtain ⟨⟨k9, hX9⟩, -, -, -, -, -⟩ := id hL9
  have y9 := w9.2.2
  refine chk_i (show qR (-101) by decide) (ite_i (fun _ => ?_) fun h => absurd rfl h)
  exact f116_640 hL9 rfl fun t' D' a b => q t' D' (by omega) (by omega)
theorem f116_386 (hL : LI t D G) (e9 : l9 = G 28 14) (q : ∀ t' D', t'.2.2.1 ≤ t.2.2.1 + 312 → t'.2.2.2 ≤ t.2.2.2 + 7800 → Q 1 t' D') : wp S 116 386 [some qx, some (qs 0), some (qs 28), some (qs 29), some (qs 30), some (qs 31), some (qs 32), some (qs 33), some (qi l8), some (qi l9), o10, o11] [] t D Q := by
  subst e9
  obtain ⟨⟨k, hX⟩, hR, hT, h9, hM, hG⟩ := id hL
  have hC := hR.1
  have hV := hR.2.1
  have h13 := hV.1
  have h78 := hV.2.2.2.1
  have hnf := hT.2.1
  have hB := hT.2.2 0 (by omega)
  have hpm := hB.2.1.1
  have eB : D 28 4 = G 38 0 := hB.1.2
  have hp0 : 0 ≤ G 38 0 ∧ G 38 0 ≤ 3 := ⟨hpm.2.2.1, hpm.2.2.2⟩
  have s520 : wp S 116 520 [some qx, some (qs 0), some (qs 28), some (qs 29), some (qs 30), some (qs 31), some (qs 32), some (qs 33), some (qi l8), some (qi (G 28 14)), o10, o11] [] t D Q := by
    apply lb116_520
    refine x76 hX.q.1 (by decide) ?_
    have ev520 : vReg G 4 = -101 := by unfold vReg; exact if_pos (by decide)
    rw [ev520]
    refine chk_i (show qR (-101) by decide) (ite_i (fun _ => ?_) fun h => absurd rfl h)
    apply lb116_530
    refine x76 hX.q.1 (by decide) ?_
    have ev530 : vReg G (-1) = -101 := by unfold vReg; exact if_pos (by decide)
    rw [ev530]
    refine chk_i (show qR (-101) by decide) (ite_i (fun _ => ?_) fun h => absurd rfl h)
    exact f116_540 hL rfl q
  apply lb116_386
  refine x72 hX.q.1 hR (by omega) (by decide) (by decide) ?_
  have ev386 : vRow G (G 28 14) 0 0 = -101 := by unfold vRow; exact if_pos (by omega)
  rw [ev386]
  refine chk_i (show qR (-101) by decide) (ite_i (fun _ => ?_) fun h => absurd rfl h)
  apply lb116_399
  refine x72 hX.q.1 hR (by decide) (by decide) (by decide) ?_
  have ev399 : vRow G 0 10 0 = -101 := by unfold vRow; rw [if_neg (by omega)]; exact if_pos (by decide)
  rw [ev399]
  refine chk_i (show qR (-101) by decide) (ite_i (fun _ => ?_) fun h => absurd rfl h)
  apply lb116_412
  refine x72 hX.q.1 hR (by decide) (by decide) (by decide) ?_
  have ev412 : vRow G 0 (-1) 0 = -101 := by unfold vRow; rw [if_neg (by omega)]; exact if_pos (by decide)
  rw [ev412]
  refine chk_i (show qR (-101) by decide) (ite_i (fun _ => ?_) fun h => absurd rfl h)
  apply lb116_424
  refine x72 hX.q.1 hR (by decide) (by decide) (by decide) ?_
  have ev424 : vRow G 0 0 6 = -102 := by unfold vRow; rw [if_neg (by omega), if_neg (by decide)]; exact if_pos (by decide)
  rw [ev424]
  refine chk_i (show qR (-102) by decide) (ite_i (fun _ => ?_) fun h => absurd rfl h)
  apply lb116_437
  refine x73 hX.q.1 hX.q.2.1 hR (by omega) (by decide) (by decide) ?_
  have ev437 : vPad G (G 28 14) 0 0 = -101 := by unfold vPad; exact if_pos (by omega)
  rw [ev437]
  refine chk_i (show qR (-101) by decide) (ite_i (fun _ => ?_) fun h => absurd rfl h)
  apply lb116_450
  rw [eB]
  refine x73 hX.q.1 hX.q.2.1 hR (by decide) (by omega) (by decide) ?_
  have ev450 : vPad G 0 (G 38 0) 0 = -101 := by unfold vPad; exact if_pos (by omega)
  rw [ev450]
  refine chk_i (show qR (-101) by decide) (ite_i (fun _ => ?_) fun h => absurd rfl h)
  apply lb116_464
  rw [eB]
  refine x74 hX.q.1 hR (by decide) (by omega) (by decide) ?_
  have ev464 : vAs G 0 (G 38 0) 0 = -101 := by unfold vAs; exact if_pos (by omega)
  rw [ev464]
  refine chk_i (show qR (-101) by decide) (ite_i (fun _ => ?_) fun h => absurd rfl h)
  apply lb116_478
  refine x75 hX.q.1 hR (by decide) (by decide) ?_
  have ev478 : vFrame G 8 0 = -101 := by unfold vFrame; exact if_pos (by omega)
  rw [ev478]
  refine chk_i (show qR (-101) by decide) (ite_i (fun _ => ?_) fun h => absurd rfl h)
  apply lb116_490
  refine x75 hX.q.1 hR (by decide) (by decide) ?_
  have ev490 : vFrame G (-1) 0 = -101 := by unfold vFrame; exact if_pos (by omega)
  rw [ev490]
  refine chk_i (show qR (-101) by decide) (ite_i (fun _ => ?_) fun h => absurd rfl h)
  apply lb116_501
  rw [hM.2.1]
  refine chk_i (by omega) (ite_i (fun _ => s520) fun c => ?_)
  refine x75 hX.q.1 hR (by decide) (by decide) ?_
  have ev : vFrame G 0 12 = -102 := by unfold vFrame; rw [if_neg (by omega)]; exact if_pos (by decide)
  rw [ev]
  exact chk_i (show qR (-102) by decide) (ite_i (fun _ => s520) fun h => absurd rfl h)
end LFin
