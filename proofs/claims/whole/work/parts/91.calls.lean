/-! ## the calls of the law, one by one -/
section LC
variable {S : (Nat → Int32) × Nat} {t : qT} {D : qD} {Q : Int → qT → qD → Prop} {l3 : Int} {c : Nat}
set_option maxRecDepth 100000 in
theorem law_0 (hI : IV c t D) (hc : c < 512) (h0 : 0 ≤ l3) (h5 : l3 + 5 ≤ S.2) (h6 : l3 + 5 < 2147483648) (q : ∀ t' D', IV (c + 1) t' D' → wp S 188 848 [some qx, some (qs 0), some (qs 28), some (qi l3)] [] t' D' Q) : wp S 188 156 [some qx, some (qs 0), some (qs 28), some (qi l3)] [] t D Q := by
  obtain ⟨⟨k, hX⟩, hR, h15, -⟩ := id hI
  refine b188_156 (chk_i (by omega) (x68 hX.z hR.z (i32_R _) fun t1 D1 hk => chk_i (by omega) (c111 (i32_R _) (hI.r hk) ?_)))
  have e := hI.p (x := fun D => pLetter D (S.1 (l3 + 1).toNat).toInt) hk (fun hr => rk_letter hr) (rg_letter D1 _)
  rw [show (pLetter (rst D) (S.1 (l3 + 1).toNat).toInt).1 = (pLetter D1 (S.1 (l3 + 1).toNat).toInt).1 from e.1]
  exact s_eq rfl rfl (q _ _ (e.2 _ SQ.rfl'))
set_option maxRecDepth 100000 in
theorem law_1 (hI : IV c t D) (hc : c < 512) (h0 : 0 ≤ l3) (h5 : l3 + 5 ≤ S.2) (h6 : l3 + 5 < 2147483648) (q : ∀ t' D', IV (c + 1) t' D' → wp S 188 848 [some qx, some (qs 0), some (qs 28), some (qi l3)] [] t' D' Q) : wp S 188 179 [some qx, some (qs 0), some (qs 28), some (qi l3)] [] t D Q := by
  obtain ⟨⟨k, hX⟩, hR, h15, -⟩ := id hI
  refine b188_179 (x69 hX.z hR.z fun t1 D1 hk => c112 ?_)
  have e := hI.p (x := fun D => pBlank D) hk (fun hr => rk_blank hr) (rg_blank D1)
  rw [show (pBlank (rst D)).1 = (pBlank D1).1 from e.1]
  exact s_eq rfl rfl (q _ _ (e.2 _ SQ.rfl'))
set_option maxRecDepth 100000 in
theorem law_2 (hI : IV c t D) (hc : c < 512) (h0 : 0 ≤ l3) (h5 : l3 + 5 ≤ S.2) (h6 : l3 + 5 < 2147483648) (q : ∀ t' D', IV (c + 1) t' D' → wp S 188 848 [some qx, some (qs 0), some (qs 28), some (qi l3)] [] t' D' Q) : wp S 188 192 [some qx, some (qs 0), some (qs 28), some (qi l3)] [] t D Q := by
  obtain ⟨⟨k, hX⟩, hR, h15, -⟩ := id hI
  refine b188_192 (c70 (G := D) hX.1 hX.2.1.1 fun t1 D1 hk hn hs => ?_)
  have hx : XK t t1 D D1 (rst D) := ⟨⟨k, (hX.kp hR hk (by omega)).z⟩, fun b b0 b1 => (hk b (by have := hX.1; omega)).2.2, by omega, by omega⟩
  refine c123 (hI.r hx) fun E hE => ?_
  have e := rv_read D1
  rw [rst_kr hx.2.1, rv_read] at e
  rw [e]
  exact s_eq rfl rfl (q _ _ (hI.v hx _ hE))
set_option maxRecDepth 100000 in
theorem law_3 (hI : IV c t D) (hc : c < 512) (h0 : 0 ≤ l3) (h5 : l3 + 5 ≤ S.2) (h6 : l3 + 5 < 2147483648) (q : ∀ t' D', IV (c + 1) t' D' → wp S 188 848 [some qx, some (qs 0), some (qs 28), some (qi l3)] [] t' D' Q) : wp S 188 205 [some qx, some (qs 0), some (qs 28), some (qi l3)] [] t D Q := by
  obtain ⟨⟨k, hX⟩, hR, h15, -⟩ := id hI
  refine b188_205 (wp_st fun hT => ?_)
  have h14 : (t.1 1).1 = 4 := by rw [hT.2.2.1 1 (by decide)]; rfl
  refine x71 hX.z hR.z h14 (fun t1 D1 hk hbad => ?_) fun t1 D1 s nf hg hnf hkr hk => ?_
  · refine c127 (hI.r hk) (by rw [hk.2.1 28 (by decide) (by decide)]; omega) (fun E hE _ => s_eq rfl rfl (q _ _ (hI.v hk _ hE))) fun s nf E hg => ?_
    have hg' := hg.z
    rw [rst_kr hk.2.1] at hg'
    exact absurd hg' (hbad s)
  · have er := rst_kr hkr
    have hR1 : RVs D1 := by
      have := hR.z
      rw [← er] at this
      exact this.y
    have e28 := hkr 28 (by decide) (by decide)
    refine c127 hR1 (by rw [e28]; omega) (fun E hE hbad => ?_) fun s' nf' E hg' hnf' hE hs => ?_
    · rw [← er] at hg
      exact absurd hg.y (hbad s)
    · have hg2 := hg'.z
      rw [er] at hg2
      have e1 := hg.1.symm.trans hg2.1
      cases e1
      obtain rfl : nf' = nf := by omega
      have hz := hE.z
      rw [er] at hz
      have hx := hk (rst E) hz hs
      have ht := hE.rk hR1 (by rw [e28]; omega)
      refine s_eq rfl rfl (q _ _ (hI.nx hx ht.1.z ?_ (AGs.sq (F := E) ⟨fun a ha => hE.2.2.2.2.1 a ha, fun a a1 a2 => (rst_in a1 a2).symm⟩ SQ.rfl')))
      show E 28 15 ≤ _
      rw [ht.2, e28]; omega
set_option maxRecDepth 100000 in
theorem law_4 (hI : IV c t D) (hc : c < 512) (h0 : 0 ≤ l3) (h5 : l3 + 5 ≤ S.2) (h6 : l3 + 5 < 2147483648) (q : ∀ t' D', IV (c + 1) t' D' → wp S 188 848 [some qx, some (qs 0), some (qs 28), some (qi l3)] [] t' D' Q) : wp S 188 218 [some qx, some (qs 0), some (qs 28), some (qi l3)] [] t D Q := by
  obtain ⟨⟨k, hX⟩, hR, h15, -⟩ := id hI
  have hq := hX.q
  exact b188_218 (chk_i (by omega) (chk_i (by omega) (chk_i (by omega) (x72 hq.1 hR (i32_R _) (i32_R _) (i32_R _) (chk_i (by omega) (chk_i (by omega) (chk_i (by omega) (c157 (i32_R _) (i32_R _) (i32_R _) hR (s_eq rfl rfl (q _ _ (hI.v (XK.same hX.z) _ SQ.rfl')))))))))))
set_option maxRecDepth 100000 in
theorem law_5 (hI : IV c t D) (hc : c < 512) (h0 : 0 ≤ l3) (h5 : l3 + 5 ≤ S.2) (h6 : l3 + 5 < 2147483648) (q : ∀ t' D', IV (c + 1) t' D' → wp S 188 848 [some qx, some (qs 0), some (qs 28), some (qi l3)] [] t' D' Q) : wp S 188 261 [some qx, some (qs 0), some (qs 28), some (qi l3)] [] t D Q := by
  obtain ⟨⟨k, hX⟩, hR, h15, -⟩ := id hI
  have hq := hX.q
  exact b188_261 (chk_i (by omega) (chk_i (by omega) (chk_i (by omega) (x73 hq.1 hX.2.2.2.2.2.1 hR (i32_R _) (i32_R _) (i32_R _) (chk_i (by omega) (chk_i (by omega) (chk_i (by omega) (c159 (i32_R _) (i32_R _) (i32_R _) hR (s_eq rfl rfl (q _ _ (hI.v (XK.same hX.z) _ SQ.rfl')))))))))))
set_option maxRecDepth 100000 in
theorem law_6 (hI : IV c t D) (hc : c < 512) (h0 : 0 ≤ l3) (h5 : l3 + 5 ≤ S.2) (h6 : l3 + 5 < 2147483648) (q : ∀ t' D', IV (c + 1) t' D' → wp S 188 848 [some qx, some (qs 0), some (qs 28), some (qi l3)] [] t' D' Q) : wp S 188 304 [some qx, some (qs 0), some (qs 28), some (qi l3)] [] t D Q := by
  obtain ⟨⟨k, hX⟩, hR, h15, -⟩ := id hI
  have hq := hX.q
  exact b188_304 (chk_i (by omega) (chk_i (by omega) (chk_i (by omega) (x74 hq.1 hR (i32_R _) (i32_R _) (i32_R _) (chk_i (by omega) (chk_i (by omega) (chk_i (by omega) (c160 (i32_R _) (i32_R _) (i32_R _) hR (s_eq rfl rfl (q _ _ (hI.v (XK.same hX.z) _ SQ.rfl')))))))))))
set_option maxRecDepth 100000 in
theorem law_7 (hI : IV c t D) (hc : c < 512) (h0 : 0 ≤ l3) (h5 : l3 + 5 ≤ S.2) (h6 : l3 + 5 < 2147483648) (q : ∀ t' D', IV (c + 1) t' D' → wp S 188 848 [some qx, some (qs 0), some (qs 28), some (qi l3)] [] t' D' Q) : wp S 188 347 [some qx, some (qs 0), some (qs 28), some (qi l3)] [] t D Q := by
  obtain ⟨⟨k, hX⟩, hR, h15, -⟩ := id hI
  have hq := hX.q
  exact b188_347 (chk_i (by omega) (chk_i (by omega) (x75 hq.1 hR (i32_R _) (i32_R _) (chk_i (by omega) (chk_i (by omega) (c163 (i32_R _) (i32_R _) hR (s_eq rfl rfl (q _ _ (hI.v (XK.same hX.z) _ SQ.rfl')))))))))
set_option maxRecDepth 100000 in
theorem law_8 (hI : IV c t D) (hc : c < 512) (h0 : 0 ≤ l3) (h5 : l3 + 5 ≤ S.2) (h6 : l3 + 5 < 2147483648) (q : ∀ t' D', IV (c + 1) t' D' → wp S 188 848 [some qx, some (qs 0), some (qs 28), some (qi l3)] [] t' D' Q) : wp S 188 380 [some qx, some (qs 0), some (qs 28), some (qi l3)] [] t D Q := by
  obtain ⟨⟨k, hX⟩, hR, h15, -⟩ := id hI
  have hq := hX.q
  exact b188_380 (chk_i (by omega) (x76 hq.1 (i32_R _) (chk_i (by omega) (c164 (i32_R _) (s_eq rfl rfl (q _ _ (hI.v (XK.same hX.z) _ SQ.rfl')))))))
set_option maxRecDepth 100000 in
theorem law_9 (hI : IV c t D) (hc : c < 512) (h0 : 0 ≤ l3) (h5 : l3 + 5 ≤ S.2) (h6 : l3 + 5 < 2147483648) (q : ∀ t' D', IV (c + 1) t' D' → wp S 188 848 [some qx, some (qs 0), some (qs 28), some (qi l3)] [] t' D' Q) : wp S 188 403 [some qx, some (qs 0), some (qs 28), some (qi l3)] [] t D Q := by
  obtain ⟨⟨k, hX⟩, hR, h15, -⟩ := id hI
  refine b188_403 (chk_i (by omega) (x77 hX.z hR.z (i32_R _) fun t1 D1 hk => chk_i (by omega) (c139 (i32_R _) (hI.r hk) ?_)))
  have e := hI.p (x := fun D => pCall D (S.1 (l3 + 1).toNat).toInt) hk (fun hr => rk_call hr) (rg_call D1 _)
  rw [show (pCall (rst D) (S.1 (l3 + 1).toNat).toInt).1 = (pCall D1 (S.1 (l3 + 1).toNat).toInt).1 from e.1]
  exact s_eq rfl rfl (q _ _ (e.2 _ SQ.rfl'))
set_option maxRecDepth 100000 in
theorem law_10 (hI : IV c t D) (hc : c < 512) (h0 : 0 ≤ l3) (h5 : l3 + 5 ≤ S.2) (h6 : l3 + 5 < 2147483648) (q : ∀ t' D', IV (c + 1) t' D' → wp S 188 848 [some qx, some (qs 0), some (qs 28), some (qi l3)] [] t' D' Q) : wp S 188 426 [some qx, some (qs 0), some (qs 28), some (qi l3)] [] t D Q := by
  obtain ⟨⟨k, hX⟩, hR, h15, -⟩ := id hI
  refine b188_426 (chk_i (by omega) (x78 hX.z hR.z (i32_R _) fun t1 D1 hk => chk_i (by omega) (c140 (i32_R _) (hI.r hk) ?_)))
  have e := hI.p (x := fun D => pGo D (S.1 (l3 + 1).toNat).toInt) hk (fun hr => rk_go hr) (rg_go D1 _)
  rw [show (pGo (rst D) (S.1 (l3 + 1).toNat).toInt).1 = (pGo D1 (S.1 (l3 + 1).toNat).toInt).1 from e.1]
  exact s_eq rfl rfl (q _ _ (e.2 _ SQ.rfl'))
set_option maxRecDepth 100000 in
theorem law_11 (hI : IV c t D) (hc : c < 512) (h0 : 0 ≤ l3) (h5 : l3 + 5 ≤ S.2) (h6 : l3 + 5 < 2147483648) (q : ∀ t' D', IV (c + 1) t' D' → wp S 188 848 [some qx, some (qs 0), some (qs 28), some (qi l3)] [] t' D' Q) : wp S 188 449 [some qx, some (qs 0), some (qs 28), some (qi l3)] [] t D Q := by
  obtain ⟨⟨k, hX⟩, hR, h15, -⟩ := id hI
  refine b188_449 (chk_i (by omega) (chk_i (by omega) (x79 hX.z hR.z (i32_R _) (i32_R _) fun t1 D1 hk => chk_i (by omega) (chk_i (by omega) (c141 (i32_R _) (i32_R _) (hI.r hk) ?_)))))
  have e := hI.p (x := fun D => pSet D (S.1 (l3 + 1).toNat).toInt (S.1 (l3 + 2).toNat).toInt) hk (fun hr => rk_set hr) (rg_set D1 _ _)
  rw [show (pSet (rst D) (S.1 (l3 + 1).toNat).toInt (S.1 (l3 + 2).toNat).toInt).1 = (pSet D1 (S.1 (l3 + 1).toNat).toInt (S.1 (l3 + 2).toNat).toInt).1 from e.1]
  exact s_eq rfl rfl (q _ _ (e.2 _ SQ.rfl'))
set_option maxRecDepth 100000 in
theorem law_12 (hI : IV c t D) (hc : c < 512) (h0 : 0 ≤ l3) (h5 : l3 + 5 ≤ S.2) (h6 : l3 + 5 < 2147483648) (q : ∀ t' D', IV (c + 1) t' D' → wp S 188 848 [some qx, some (qs 0), some (qs 28), some (qi l3)] [] t' D' Q) : wp S 188 482 [some qx, some (qs 0), some (qs 28), some (qi l3)] [] t D Q := by
  obtain ⟨⟨k, hX⟩, hR, h15, -⟩ := id hI
  refine b188_482 (x80 hX.z hR.z fun t1 D1 hk => c142 (hI.r hk) ?_)
  have e := hI.p (x := fun D => pBack D) hk (fun hr => rk_back hr) (rg_back D1)
  rw [show (pBack (rst D)).1 = (pBack D1).1 from e.1]
  exact s_eq rfl rfl (q _ _ (e.2 _ SQ.rfl'))
set_option maxRecDepth 100000 in
theorem law_13 (hI : IV c t D) (hc : c < 512) (h0 : 0 ≤ l3) (h5 : l3 + 5 ≤ S.2) (h6 : l3 + 5 < 2147483648) (q : ∀ t' D', IV (c + 1) t' D' → wp S 188 848 [some qx, some (qs 0), some (qs 28), some (qi l3)] [] t' D' Q) : wp S 188 495 [some qx, some (qs 0), some (qs 28), some (qi l3)] [] t D Q := by
  obtain ⟨⟨k, hX⟩, hR, h15, -⟩ := id hI
  refine b188_495 (chk_i (by omega) (x81 hX.z hR.z (i32_R _) fun t1 D1 hk => chk_i (by omega) (c151 (i32_R _) (hI.r hk) fun E hE => ?_)))
  have e := hI.p (x := fun D => pRaise D (S.1 (l3 + 1).toNat).toInt) hk (fun hr => rk_raise hr) (rg_raise D1 _)
  rw [show (pRaise (rst D) (S.1 (l3 + 1).toNat).toInt).1 = (pRaise D1 (S.1 (l3 + 1).toNat).toInt).1 from e.1]
  exact s_eq rfl rfl (q _ _ (e.2 _ hE))
set_option maxRecDepth 100000 in
theorem law_14 (hI : IV c t D) (hc : c < 512) (h0 : 0 ≤ l3) (h5 : l3 + 5 ≤ S.2) (h6 : l3 + 5 < 2147483648) (q : ∀ t' D', IV (c + 1) t' D' → wp S 188 848 [some qx, some (qs 0), some (qs 28), some (qi l3)] [] t' D' Q) : wp S 188 518 [some qx, some (qs 0), some (qs 28), some (qi l3)] [] t D Q := by
  obtain ⟨⟨k, hX⟩, hR, h15, -⟩ := id hI
  refine b188_518 (chk_i (by omega) (chk_i (by omega) (chk_i (by omega) (x82 hX.z hR.z (i32_R _) (i32_R _) (i32_R _) fun t1 D1 hk => chk_i (by omega) (chk_i (by omega) (chk_i (by omega) (c155 (i32_R _) (i32_R _) (i32_R _) (hI.r hk) ?_)))))))
  have e := hI.p (x := fun D => pChange D (S.1 (l3 + 1).toNat).toInt (S.1 (l3 + 2).toNat).toInt (S.1 (l3 + 3).toNat).toInt) hk (fun hr => rk_change hr) (rg_change D1 _ _ _)
  rw [show (pChange (rst D) (S.1 (l3 + 1).toNat).toInt (S.1 (l3 + 2).toNat).toInt (S.1 (l3 + 3).toNat).toInt).1 = (pChange D1 (S.1 (l3 + 1).toNat).toInt (S.1 (l3 + 2).toNat).toInt (S.1 (l3 + 3).toNat).toInt).1 from e.1]
  exact s_eq rfl rfl (q _ _ (e.2 _ SQ.rfl'))
set_option maxRecDepth 100000 in
theorem law_15 (hI : IV c t D) (hc : c < 512) (h0 : 0 ≤ l3) (h5 : l3 + 5 ≤ S.2) (h6 : l3 + 5 < 2147483648) (q : ∀ t' D', IV (c + 1) t' D' → wp S 188 848 [some qx, some (qs 0), some (qs 28), some (qi l3)] [] t' D' Q) : wp S 188 561 [some qx, some (qs 0), some (qs 28), some (qi l3)] [] t D Q := by
  obtain ⟨⟨k, hX⟩, hR, h15, -⟩ := id hI
  refine b188_561 (x83 hX.z hR.z fun t1 D1 hk hu => c132p (hI.r hk) ?_)
  have e := hI.p (x := fun D => pUndo D) hk (fun hr => ⟨hu, rk_undo⟩) (rg_undo D1)
  rw [show (pUndo (rst D)).1 = (pUndo D1).1 from e.1]
  exact s_eq rfl rfl (q _ _ (e.2 _ SQ.rfl'))
set_option maxRecDepth 100000 in
theorem law_16 (hI : IV c t D) (hc : c < 512) (h0 : 0 ≤ l3) (h5 : l3 + 5 ≤ S.2) (h6 : l3 + 5 < 2147483648) (q : ∀ t' D', IV (c + 1) t' D' → wp S 188 848 [some qx, some (qs 0), some (qs 28), some (qi l3)] [] t' D' Q) : wp S 188 574 [some qx, some (qs 0), some (qs 28), some (qi l3)] [] t D Q := by
  obtain ⟨⟨k, hX⟩, hR, h15, -⟩ := id hI
  have hq := hX.q
  exact b188_574 (chk_i (by omega) (chk_i (by omega) (x84 hq.1 hR (i32_R _) (i32_R _) (chk_i (by omega) (chk_i (by omega) (c148 (i32_R _) (i32_R _) hR (fun E hE => s_eq rfl rfl (q _ _ (hI.v (XK.same hX.z) _ hE)))))))))
set_option maxRecDepth 100000 in
theorem law_17 (hI : IV c t D) (hc : c < 512) (h0 : 0 ≤ l3) (h5 : l3 + 5 ≤ S.2) (h6 : l3 + 5 < 2147483648) (q : ∀ t' D', IV (c + 1) t' D' → wp S 188 848 [some qx, some (qs 0), some (qs 28), some (qi l3)] [] t' D' Q) : wp S 188 607 [some qx, some (qs 0), some (qs 28), some (qi l3)] [] t D Q := by
  obtain ⟨⟨k, hX⟩, hR, h15, -⟩ := id hI
  have hq := hX.q
  exact b188_607 (x85 hq.1 hR (c153 hR (fun E hE => s_eq rfl rfl (q _ _ (hI.v (XK.same hX.z) _ hE)))))
set_option maxRecDepth 100000 in
theorem law_18 (hI : IV c t D) (hc : c < 512) (h0 : 0 ≤ l3) (h5 : l3 + 5 ≤ S.2) (h6 : l3 + 5 < 2147483648) (q : ∀ t' D', IV (c + 1) t' D' → wp S 188 848 [some qx, some (qs 0), some (qs 28), some (qi l3)] [] t' D' Q) : wp S 188 620 [some qx, some (qs 0), some (qs 28), some (qi l3)] [] t D Q := by
  obtain ⟨⟨k, hX⟩, hR, h15, -⟩ := id hI
  have hq := hX.q
  exact b188_620 (chk_i (by omega) (x86 hq.1 hR (i32_R _) (chk_i (by omega) (c154 (i32_R _) hR (s_eq rfl rfl (q _ _ (hI.v (XK.same hX.z) _ SQ.rfl')))))))
set_option maxRecDepth 100000 in
theorem law_19 (hI : IV c t D) (hc : c < 512) (h0 : 0 ≤ l3) (h5 : l3 + 5 ≤ S.2) (h6 : l3 + 5 < 2147483648) (q : ∀ t' D', IV (c + 1) t' D' → wp S 188 848 [some qx, some (qs 0), some (qs 28), some (qi l3)] [] t' D' Q) : wp S 188 643 [some qx, some (qs 0), some (qs 28), some (qi l3)] [] t D Q := by
  obtain ⟨⟨k, hX⟩, hR, h15, -⟩ := id hI
  have hq := hX.q
  exact b188_643 (chk_i (by omega) (chk_i (by omega) (x87 hq.1 hR (i32_R _) (i32_R _) (chk_i (by omega) (chk_i (by omega) (c165 (i32_R _) (i32_R _) hR (s_eq rfl rfl (q _ _ (hI.v (XK.same hX.z) _ SQ.rfl')))))))))
set_option maxRecDepth 100000 in
theorem law_20 (hI : IV c t D) (hc : c < 512) (h0 : 0 ≤ l3) (h5 : l3 + 5 ≤ S.2) (h6 : l3 + 5 < 2147483648) (q : ∀ t' D', IV (c + 1) t' D' → wp S 188 848 [some qx, some (qs 0), some (qs 28), some (qi l3)] [] t' D' Q) : wp S 188 676 [some qx, some (qs 0), some (qs 28), some (qi l3)] [] t D Q := by
  obtain ⟨⟨k, hX⟩, hR, h15, -⟩ := id hI
  refine b188_676 (chk_i (by omega) (chk_i (by omega) (chk_i (by omega) (chk_i (by omega) (x88 hX.z hR.z (i32_R _) (i32_R _) (i32_R _) (i32_R _) fun t1 D1 hk => chk_i (by omega) (chk_i (by omega) (chk_i (by omega) (chk_i (by omega) (c166 (i32_R _) (i32_R _) (i32_R _) (i32_R _) (hI.r hk) ?_)))))))))
  have e := hI.p (x := fun D => pSee D (S.1 (l3 + 1).toNat).toInt (S.1 (l3 + 2).toNat).toInt (S.1 (l3 + 3).toNat).toInt (S.1 (l3 + 4).toNat).toInt) hk (fun hr => rk_see hr) (rg_see D1 _ _ _ _)
  rw [show (pSee (rst D) (S.1 (l3 + 1).toNat).toInt (S.1 (l3 + 2).toNat).toInt (S.1 (l3 + 3).toNat).toInt (S.1 (l3 + 4).toNat).toInt).1 = (pSee D1 (S.1 (l3 + 1).toNat).toInt (S.1 (l3 + 2).toNat).toInt (S.1 (l3 + 3).toNat).toInt (S.1 (l3 + 4).toNat).toInt).1 from e.1]
  exact s_eq rfl rfl (q _ _ (e.2 _ SQ.rfl'))
set_option maxRecDepth 100000 in
theorem law_21 (hI : IV c t D) (hc : c < 512) (h0 : 0 ≤ l3) (h5 : l3 + 5 ≤ S.2) (h6 : l3 + 5 < 2147483648) (q : ∀ t' D', IV (c + 1) t' D' → wp S 188 848 [some qx, some (qs 0), some (qs 28), some (qi l3)] [] t' D' Q) : wp S 188 729 [some qx, some (qs 0), some (qs 28), some (qi l3)] [] t D Q := by
  obtain ⟨⟨k, hX⟩, hR, h15, -⟩ := id hI
  refine b188_729 (x89 hX.z fun t1 D1 hk => c167 ?_)
  have e := hI.p (x := fun D => pForget D) hk (fun hr => rk_forget hr) (rg_forget D1)
  rw [show (pForget (rst D)).1 = (pForget D1).1 from e.1]
  exact s_eq rfl rfl (q _ _ (e.2 _ SQ.rfl'))
set_option maxRecDepth 100000 in
theorem law_22 (hI : IV c t D) (hc : c < 512) (h0 : 0 ≤ l3) (h5 : l3 + 5 ≤ S.2) (h6 : l3 + 5 < 2147483648) (q : ∀ t' D', IV (c + 1) t' D' → wp S 188 848 [some qx, some (qs 0), some (qs 28), some (qi l3)] [] t' D' Q) : wp S 188 742 [some qx, some (qs 0), some (qs 28), some (qi l3)] [] t D Q := by
  obtain ⟨⟨k, hX⟩, hR, h15, -⟩ := id hI
  refine b188_742 (chk_i (by omega) (chk_i (by omega) (chk_i (by omega) (x90 hX.z hR.z (i32_R _) (i32_R _) (i32_R _) fun t1 D1 hk => chk_i (by omega) (chk_i (by omega) (chk_i (by omega) (c176 (i32_R _) (i32_R _) (i32_R _) (hI.r hk) fun E hE => ?_)))))))
  have e := rv_drawn D1 (S.1 (l3 + 1).toNat).toInt (S.1 (l3 + 2).toNat).toInt (S.1 (l3 + 3).toNat).toInt
  rw [rst_kr hk.2.1] at e
  rw [e]
  exact s_eq rfl rfl (q _ _ (hI.v hk _ hE))
set_option maxRecDepth 100000 in
theorem law_23 (hI : IV c t D) (hc : c < 512) (h0 : 0 ≤ l3) (h5 : l3 + 5 ≤ S.2) (h6 : l3 + 5 < 2147483648) (q : ∀ t' D', IV (c + 1) t' D' → wp S 188 848 [some qx, some (qs 0), some (qs 28), some (qi l3)] [] t' D' Q) : wp S 188 785 [some qx, some (qs 0), some (qs 28), some (qi l3)] [] t D Q := by
  obtain ⟨⟨k, hX⟩, hR, h15, -⟩ := id hI
  refine b188_785 (x91 hX.z hR.z fun t1 D1 hk => c177 (hI.r hk) ?_)
  have e := hI.p (x := fun D => pImage D) hk (fun hr => rk_image hr) (rg_image D1)
  rw [show (pImage (rst D)).1 = (pImage D1).1 from e.1]
  exact s_eq rfl rfl (q _ _ (e.2 _ SQ.rfl'))
set_option maxRecDepth 100000 in
theorem law_24 (hI : IV c t D) (hc : c < 512) (h0 : 0 ≤ l3) (h5 : l3 + 5 ≤ S.2) (h6 : l3 + 5 < 2147483648) (q : ∀ t' D', IV (c + 1) t' D' → wp S 188 848 [some qx, some (qs 0), some (qs 28), some (qi l3)] [] t' D' Q) : wp S 188 798 [some qx, some (qs 0), some (qs 28), some (qi l3)] [] t D Q := by
  obtain ⟨⟨k, hX⟩, hR, h15, -⟩ := id hI
  refine b188_798 (x92 hX.z hR.z fun t1 D1 hk hu => c178 (hI.r hk) (by rw [hk.2.1 28 (by decide) (by decide)]; have := hX.2.2.2.2.2.2.1; exact ⟨by omega, by omega⟩) ?_)
  have e := hI.p (x := fun D => pRestore D) hk (fun hr => ⟨hu, rk_restore⟩) (rg_restore D1)
  rw [show (pRestore (rst D)).1 = (pRestore D1).1 from e.1]
  exact s_eq rfl rfl (q _ _ (e.2 _ SQ.rfl'))
set_option maxRecDepth 100000 in
theorem law_25 (hI : IV c t D) (hc : c < 512) (h0 : 0 ≤ l3) (h5 : l3 + 5 ≤ S.2) (h6 : l3 + 5 < 2147483648) (q : ∀ t' D', IV (c + 1) t' D' → wp S 188 848 [some qx, some (qs 0), some (qs 28), some (qi l3)] [] t' D' Q) : wp S 188 811 [some qx, some (qs 0), some (qs 28), some (qi l3)] [] t D Q := by
  obtain ⟨⟨k, hX⟩, hR, h15, -⟩ := id hI
  have hq := hX.q
  exact b188_811 (chk_i (by omega) (x93 hq hR (i32_R _) (chk_i (by omega) (b182_0 (c181 (i32_R _) hR.1 (s_eq rfl rfl (q _ _ (hI.v (XK.same hX.z) _ SQ.rfl'))))))))
set_option maxRecDepth 100000 in
theorem law_26 (hI : IV c t D) (hc : c < 512) (h0 : 0 ≤ l3) (h5 : l3 + 5 ≤ S.2) (h6 : l3 + 5 < 2147483648) (q : ∀ t' D', IV (c + 1) t' D' → wp S 188 848 [some qx, some (qs 0), some (qs 28), some (qi l3)] [] t' D' Q) : wp S 188 834 [some qx, some (qs 0), some (qs 28), some (qi l3)] [] t D Q := by
  obtain ⟨⟨k, hX⟩, hR, h15, -⟩ := id hI
  have hq := hX.q
  exact b188_834 (x94 hq hR (c186 hR fun E hE => chk_i (.inl rfl) (by
    rw [show qcmp (vDigest D) (vDigest D) = 0 by unfold qcmp; rw [if_neg (by omega), if_pos rfl]]
    exact chk_i (by omega) (by rw [if_pos rfl]; exact q _ _ (hI.v (XK.same hX.z) _ hE)))))
end LC
