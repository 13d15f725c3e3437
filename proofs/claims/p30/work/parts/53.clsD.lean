/-! ## the class: going back, thrown -/
theorem sReg_eq {sv M N : Int → Int} {n n' r v : Int} (hs : sAt M n = sAt N n') (h0 : M (sAt N n') = N (sAt N n')) (h1 : M (sAt N n' + 1) = N (sAt N n' + 1))
    (h2 : ¬ sv (40 * N (sAt N n') + 4 * N (sAt N n' + 1) + r) = -1 → M (sAt N n' + 2 + sv (40 * N (sAt N n') + 4 * N (sAt N n' + 1) + r)) = N (sAt N n' + 2 + sv (40 * N (sAt N n') + 4 * N (sAt N n' + 1) + r))) : sReg sv M n r v = sReg sv N n' r v := by
  unfold sReg sCell
  rw [hs, h0, h1]
  by_cases c : sv (40 * N (sAt N n') + 4 * N (sAt N n' + 1) + r) = -1
  · rw [if_pos c, if_pos c]
  · rw [if_neg c, if_neg c, h2 c]
section KD
variable {S : (Nat → Int32) × Nat} {t : qT} {D G : qD} {Q : Int → qT → qD → Prop} {a k : Nat} {N : Int → Int}
theorem sReg_R (hC : CVd G) (hV : RVd (G 28 14) N) (h13 : 1 ≤ N 13) {r v : Int} (hr : 0 ≤ r ∧ r < 4) (hv : qR v) : qR (sReg (G 34) N 0 r v) := by
  have ha := sAt_r hV (Int.le_refl 0) (by omega)
  have h1 := hC.1
  unfold sReg
  split
  · exact hv
  · have := hC.2.2.2.1 (40 * N (sAt N 0) + 4 * N (sAt N 0 + 1) + r) (by omega) (by omega)
    unfold sCell at *
    exact hV.2.2.2.2 _ (by omega) (by omega)
theorem RVd.cpf {nf : Int} {g : Int → Int} {hi : Int} (hV : RVd nf N) (hh : hi ≤ 13) (hg : ∀ i, 9 ≤ i → i < 13 → qR (g i)) : RVd nf (cpf N g 9 hi) := by
  obtain ⟨h1, h3, h4, h5, h6⟩ := hV
  refine ⟨?_, fun l x y => ?_, fun k x y => ?_, ?_, fun k x y => ?_⟩
  · rw [cpf_n (by omega)]; exact h1
  · rw [cpf_n (by omega)] at y
    rw [cpf_n (by omega), cpf_n (by omega)]; exact h3 l x y
  · rw [cpf_n (by omega)]; exact h4 k x y
  · rw [cpf_n (by omega)]; exact h5
  · by_cases c : 9 ≤ k ∧ k < hi
    · rw [cpf_y c]; exact hg k c.1 (by omega)
    · rw [cpf_n c]; exact h6 k x y
theorem c31_11 (hO : MO t a) (hL : ML t a) (hB : CB t (t.2.1 a 0) a) (hC : CVd G) (hV : RVd (G 28 14) N) (h13 : 1 ≤ N 13) :
    ∀ (m : Nat) (j : Int) (D : qD), j + m = 4 → 0 ≤ j → CR t D (t.2.1 a 0) G → MR t D a (cpf N (fun i => sReg (G 34) N 0 (i - 9) (N i)) 9 (9 + j)) →
    (∀ D', MR t D' a (sBack (G 34) N) → FR a D D' → Q 0 t D') → wp S 29 11 [some (qr a), some (qi j)] [] t D Q := by
  obtain ⟨o0, oc, o1, o2, o3, o4, o5, o6⟩ := id hO
  obtain ⟨l1, l2, l3, l4, l5, l6⟩ := id hL
  have h8 := hV.1
  have h1 := hC.1
  have ha := sAt_r hV (Int.le_refl 0) (by omega)
  intro m
  induction m with
  | zero =>
    intro j D hm hj hK hM q
    obtain rfl : j = 4 := by omega
    refine b31_11 (chk_i (by omega) (ite_i (fun c => absurd c (by omega)) fun c => chk_i o0.1 (chk_i o0.1 ?_)))
    have e7 := hM.2.2.1
    rw [cpf_n (by omega)] at e7
    rw [e7]
    exact q _ (hM.w_fr hL) (FR.up (by omega))
  | succ m ih =>
    intro j D hm hj hK hM q
    have e7 := hM.2.2.1
    rw [cpf_n (by omega)] at e7
    have er := hM.2.1 j hj (by omega)
    rw [cpf_n (by omega)] at er
    refine b31_11 (chk_i (by omega) (ite_i (fun c => chk_i o0.1 (chk_i o0.1 (chk_i o0.1 (chk_i o2.1 (chk_i (by omega) (chk_i o0.1 ?_)))))) fun c => absurd c (by omega)))
    rw [e7, er]
    have e13 : cpf N (fun i => sReg (G 34) N 0 (i - 9) (N i)) 9 (9 + j) 13 = N 13 := cpf_n (by omega)
    refine c32 hO hM hK hC (hV.cpf (by omega) fun i x y => sReg_R hC hV h13 (by omega) (hV.2.2.2.2 i (by omega) (by omega))) (by rw [e13]; omega) (by omega) ?_
    have es : sAt (cpf N (fun i => sReg (G 34) N 0 (i - 9) (N i)) 9 (9 + j)) (N 13 - 1 - (N 13 - 1)) = sAt N 0 := sAt_d (by rw [e13]; omega)
    have hc := hC.2.2.2.1 (40 * N (sAt N 0) + 4 * N (sAt N 0 + 1) + j) (by omega) (by omega)
    have ev : sReg (G 34) (cpf N (fun i => sReg (G 34) N 0 (i - 9) (N i)) 9 (9 + j)) (N 13 - 1 - (N 13 - 1)) j (N (9 + j)) = (fun i => sReg (G 34) N 0 (i - 9) (N i)) (9 + j) := by
      show _ = sReg (G 34) N 0 (9 + j - 9) (N (9 + j))
      rw [show 9 + j - 9 = j by omega]
      exact sReg_eq es (cpf_n (by omega)) (cpf_n (by omega)) fun c => cpf_n (by omega)
    rw [e13, ev]
    refine chk_i o2.1 (chk_i (by omega) ?_)
    have f1 : FR a D (up D (t.2.1 a 2) j ((fun i => sReg (G 34) N 0 (i - 9) (N i)) (9 + j))) := FR.up (by omega)
    refine ih (j + 1) _ (by omega) (by omega) (hK.fr hB f1) ?_ fun D' h2 h3 => q D' h2 (f1.trans h3)
    have := hM.w_rg (v := (fun i => sReg (G 34) N 0 (i - 9) (N i)) (9 + j)) hL (i := j) (by omega)
    rw [cpf_s (by omega), show 9 + j + 1 = 9 + (j + 1) by omega] at this
    exact this
theorem c31 (hO : MO t a) (hL : ML t a) (hB : CB t (t.2.1 a 0) a) (hC : CVd G) (hV : RVd (G 28 14) N) (h13 : 1 ≤ N 13) (hK : CR t D (t.2.1 a 0) G) (hM : MR t D a N)
    (q : ∀ D', MR t D' a (sBack (G 34) N) → FR a D D' → Q 0 t D') : wp S 29 0 [some (qr a), none] [] t D Q := by
  have e7 := hM.2.2.1
  have h8 := hV.1
  refine b31_0 (chk_i hO.1.1 (chk_i (by omega) (ite_i (fun c => absurd c (by omega)) fun c => ?_)))
  exact c31_11 hO hL hB hC hV h13 4 0 D rfl (Int.le_refl _) hK (by rw [show (9 + 0 : Int) = 9 from rfl, cpf_0]; exact hM) q
theorem c38_10 {ty bef : Int} (hO : MO t a) (hL : ML t a) (hB : CB t (t.2.1 a 0) a) (hC : CVd G) (ht : 0 ≤ ty ∧ ty ≤ 4) (hb0 : 0 ≤ bef) :
    ∀ (m : Nat) (p : Int) (D : qD) (N : Int → Int), p + m = 3 → 0 ≤ p → RVd (G 28 14) N → 1 ≤ N 13 → N 78 + m ≤ 24 → bef ≤ G 38 (N (sAt N 0)) → CR t D (t.2.1 a 0) G → MR t D a N →
    (∀ D', MR t D' a (sFin (G 40) ty bef m p N) → FR a D D' → Q 0 t D') → wp S 36 10 [some (qr a), some (qi bef), some (qi ty), some (qi (N 13 - 1)), some (qi p)] [] t D Q := by
  obtain ⟨o0, oc, o1, o2, o3, o4, o5, o6⟩ := id hO
  obtain ⟨l1, l2, l3, l4, l5, l6⟩ := id hL
  have h1 := hC.1
  intro m
  induction m with
  | zero =>
    intro p D N hm hp hV h13 h78 hb hK hM q
    have ha := sAt_r hV (Int.le_refl 0) (by omega)
    have h2 := hC.2.1 _ ha.2.1.1 ha.2.1.2
    exact b38_10 (chk_i (by omega) (chk_i (by omega) (ite_i (fun c => absurd c (by omega)) fun c => q D hM FR.rfl')))
  | succ m ih =>
    intro p D N hm hp hV h13 h78 hb hK hM q
    have ha := sAt_r hV (Int.le_refl 0) (by omega)
    have h2 := hC.2.1 _ ha.2.1.1 ha.2.1.2
    have h8 := hV.1
    have h4 := hV.2.2.2.1
    have e8 := hM.2.2.2.2.2.2.1
    have es : sAt N 0 = 14 + 8 * (N 13 - 1) := by unfold sAt; omega
    have e3 := hM.2.2.2.1 (N 13 - 1) (by omega) (by omega)
    unfold sFin at q
    rw [es] at q
    refine b38_10 (chk_i (by omega) (chk_i (by omega) (ite_i (fun c => ?_) fun c => ?_)))
    · rw [if_pos c] at q
      rw [es] at hb
      have hr := sDA_r (G 40) N (N (14 + 8 * (N 13 - 1))) p (N (14 + 8 * (N 13 - 1) + 1)) ty
      refine chk_i o0.1 (chk_i o0.1 (chk_i o6.1 (chk_i (by omega) (chk_i (by omega) (ite_i (fun c2 => ?_) fun c2 => absurd c2 (by omega))))))
      refine chk_i o0.1 (c35 hO hM hK hC hV (by omega) ⟨hp, by omega⟩ ht ?_)
      refine chk_i (by omega) (ite_i (fun c3 => ?_) fun c3 => ?_)
      · rw [if_pos c3] at q
        rw [e3, e8]
        have e9 : up D (t.2.1 a 6) (N 78) (10 * N (14 + 8 * (N 13 - 1)) + p) a 8 = N 78 := by rw [up_eq, upr_n (by omega)]; exact e8
        rw [e9]
        refine chk_i o0.1 (chk_i o0.1 (chk_i o0.1 (chk_i o3.1 (chk_i (by omega) (chk_i o6.1 (chk_i (by omega) (chk_i o0.1 (chk_i o0.1 ?_))))))))
        have f1 : FR a D (up D (t.2.1 a 6) (N 78) (10 * N (14 + 8 * (N 13 - 1)) + p)) := FR.up (by omega)
        have f2 : FR a (up D (t.2.1 a 6) (N 78) (10 * N (14 + 8 * (N 13 - 1)) + p)) (up (up D (t.2.1 a 6) (N 78) (10 * N (14 + 8 * (N 13 - 1)) + p)) a 8 (N 78 + 1)) := FR.up (by omega)
        have f3 := f1.trans f2
        have hM1 := (hM.w_dn (v := 10 * N (14 + 8 * (N 13 - 1)) + p) hL (i := N 78) (by omega)).w_fc (v := N 78 + 1) hL
        have hV' := hV.fin (x := 10 * N (14 + 8 * (N 13 - 1)) + p) (by omega) (by rw [es] at ha; omega)
        have e13 : ui (ui N (79 + N 78) (10 * N (14 + 8 * (N 13 - 1)) + p)) 78 (N 78 + 1) 13 = N 13 := by rw [ui_n (by omega), ui_n (by omega)]
        have := ih (p + 1) _ (ui (ui N (79 + N 78) (10 * N (14 + 8 * (N 13 - 1)) + p)) 78 (N 78 + 1)) (by omega) (by omega) hV' (by rw [e13]; exact h13) (by rw [ui_s]; omega) ?_ (hK.fr hB f3) hM1 fun D' h5 h6 => q D' h5 (f3.trans h6)
        · rw [e13] at this
          exact this
        · rw [sAt_ui (by decide), sAt_ui (by omega), es, ui_n (by omega), ui_n (by omega)]; exact hb
      · rw [if_neg c3] at q
        exact ih (p + 1) D N (by omega) (by omega) hV h13 (by omega) (by rw [es]; exact hb) hK hM q
    · rw [if_neg c] at q
      exact q D hM FR.rfl'
theorem c38 {ty bef : Int} (hO : MO t a) (hL : ML t a) (hB : CB t (t.2.1 a 0) a) (hC : CVd G) (ht : 0 ≤ ty ∧ ty ≤ 4) (hb0 : 0 ≤ bef) (hV : RVd (G 28 14) N) (h13 : 1 ≤ N 13) (h78 : N 78 ≤ 21) (hb : bef ≤ G 38 (N (sAt N 0))) (hK : CR t D (t.2.1 a 0) G) (hM : MR t D a N)
    (q : ∀ D', MR t D' a (sFin (G 40) ty bef 3 0 N) → FR a D D' → Q 0 t D') : wp S 36 0 [some (qr a), some (qi bef), some (qi ty), none, none] [] t D Q := by
  refine b38_0 (chk_i hO.1.1 ?_)
  rw [hM.2.2.1]
  exact c38_10 hO hL hB hC ht hb0 3 0 D N rfl (Int.le_refl _) hV h13 (by omega) hb hK hM q
theorem c37_25 {ty c cp : Int} (hO : MO t a) (hL : ML t a) (hB : CB t (t.2.1 a 0) a) (hC : CVd G) (ht : 0 ≤ ty ∧ ty ≤ 4) (hc : 0 ≤ c ∧ c ≤ 7) (hcp : 0 ≤ cp ∧ cp < 3) :
    ∀ (m : Nat) (n : Int) (D : qD) (N : Int → Int), n + m = c → 0 ≤ n → RVd (G 28 14) N → m < N 13 → N 78 ≤ 3 * n → cp < G 38 (N (sAt N m)) → CR t D (t.2.1 a 0) G → MR t D a N →
    (∀ D', MR t D' a (sEnd (G 40) ty cp (sUnw (G 34) (G 38) (G 40) ty m N)) → FR a D D' → Q 0 t D') → wp S 35 25 [some (qr a), some (qi (3 * c + cp)), some (qi ty), some (qi c), some (qi n)] [] t D Q := by
  obtain ⟨o0, oc, o1, o2, o3, o4, o5, o6⟩ := id hO
  obtain ⟨l1, l2, l3, l4, l5, l6⟩ := id hL
  have h1 := hC.1
  have em : (3 * c + cp) % 3 = cp := by omega
  intro m
  induction m with
  | zero =>
    intro n D N hm hn hV h13 h78 hcp2 hK hM q
    have ha := sAt_r hV (Int.le_refl 0) (by omega)
    have h2 := hC.2.1 _ ha.2.1.1 ha.2.1.2
    have h8 := hV.1
    have hcp2 : cp < G 38 (N (sAt N 0)) := hcp2
    have hf := sFin_r (ty := ty) (bef := cp) (pd := G 40) h1.2 (by omega) 3 0 N (Int.le_refl _) hV (by omega) (by omega)
    have e13 := hf.2.1 13 (by omega)
    have es : sAt N 0 = 14 + 8 * (N 13 - 1) := by unfold sAt; omega
    have es2 : sAt (sFin (G 40) ty cp 3 0 N) 0 = sAt N 0 := sAt_d (by rw [e13])
    refine b37_25 (chk_i (by omega) (chk_i (by omega) (ite_i (fun h => absurd h (by omega)) fun h => chk_i (by omega) (chk_i o0.1 ?_))))
    rw [em]
    refine c38 hO hL hB hC ht hcp.1 hV (by omega) (by omega) (by omega) hK hM fun D' h5 h6 => ?_
    have e7 := h5.2.2.1
    have e3 := h5.2.2.2.1 (N 13 - 1) (by omega) (by omega)
    rw [e13] at e7
    rw [← es, hf.2.1 _ (by omega)] at e3
    rw [e7, e3]
    refine chk_i o0.1 (chk_i o0.1 (chk_i o0.1 (chk_i o0.1 (chk_i o0.1 (chk_i o3.1 (chk_i (by omega) (chk_i (by omega) (chk_i oc.1.1 (c5 oc (by omega) ?_)))))))))
    have hK' := hK.fr hB h6
    rw [hK'.2.2.2.2.1 _ cp 4 ha.2.1.1 ha.2.1.2 hcp.1 hcp2 (by omega) (by omega)]
    refine chk_i o4.1 (chk_i (by omega) (q _ ?_ (h6.trans (FR.up (by omega)))))
    have := h5.w_ad (v := G 40 (15 * N (sAt N 0) + 5 * cp + 4)) hL (l := N 13 - 1) (by omega)
    rw [← es] at this
    exact this
  | succ m ih =>
    intro n D N hm hn hV h13 h78 hcp2 hK hM q
    have ha := sAt_r hV (Int.le_refl 0) (by omega)
    have h2 := hC.2.1 _ ha.2.1.1 ha.2.1.2
    have h8 := hV.1
    have hu := sUn1_r (ty := ty) hC hV (by omega) (by omega)
    have es : sAt N 0 = 14 + 8 * (N 13 - 1) := by unfold sAt; omega
    have e7 := hM.2.2.1
    have e3 := hM.2.2.2.1 (N 13 - 1) (by omega) (by omega)
    rw [← es] at e3
    refine b37_25 (chk_i (by omega) (chk_i (by omega) (ite_i (fun h => chk_i o0.1 (chk_i o0.1 (chk_i o0.1 (chk_i o3.1 (chk_i (by omega) (chk_i oc.1.1 ?_)))))) fun h => absurd h (by omega))))
    rw [e7, e3]
    refine c3 oc (by omega) ?_
    rw [hK.2.2.2.1 _ ha.2.1.1 ha.2.1.2]
    refine chk_i o0.1 (c38 hO hL hB hC ht h2.2.2.1 hV (by omega) (by omega) (Int.le_refl _) hK hM fun D1 h5 h6 => ?_)
    have hK1 := hK.fr hB h6
    refine chk_i o0.1 (c31 hO hL hB hC hu.1 (by rw [hu.2.2.2.2.2.2]; omega) hK1 h5 fun D2 h7 h9 => ?_)
    have e : sAt (sBack (G 34) (sFin (G 40) ty (G 38 (N (sAt N 0))) 3 0 N)) m = sAt N ((m + 1 : Nat) : Int) := by
      refine sAt_d ?_; rw [hu.2.2.1]; omega
    have hb : 14 ≤ sAt N ((m + 1 : Nat) : Int) ∧ sAt N ((m + 1 : Nat) : Int) < 78 := by unfold sAt; omega
    refine ih (n + 1) D2 _ (by omega) (by omega) hu.2.1 ?_ ?_ ?_ (hK1.fr hB h9) h7 fun D' h10 h11 => q D' h10 ((h6.trans h9).trans h11)
    · rw [hu.2.2.1]; omega
    · have := hu.2.2.2.2.1; omega
    · rw [e, hu.2.2.2.1 _ hb.1 hb.2]; exact hcp2
theorem c37 {ty c cp : Int} (hO : MO t a) (hL : ML t a) (hB : CB t (t.2.1 a 0) a) (hC : CVd G) (ht : 0 ≤ ty ∧ ty ≤ 4) (hV : RVd (G 28 14) N) (hc : 0 ≤ c ∧ c < N 13) (hcp : 0 ≤ cp ∧ cp < 3 ∧ cp < G 38 (N (sAt N c))) (hK : CR t D (t.2.1 a 0) G) (hM : MR t D a N)
    (q : ∀ D', MR t D' a (sRaise (G 34) (G 38) (G 40) N ty c cp) → FR a D D' → Q 0 t D') : wp S 35 0 [some (qr a), some (qi (3 * c + cp)), some (qi ty), none, none] [] t D Q := by
  obtain ⟨l1, l2, l3, l4, l5, l6⟩ := id hL
  have e7 := hM.2.2.1
  have h8 := hV.1
  have ed : (3 * c + cp) / 3 = c := by omega
  refine b37_0 (chk_i (by omega) (chk_i (by omega) (ite_i (fun h => absurd h (by omega)) fun h => ?_)))
  rw [ed, e7]
  refine chk_i hO.1.1 (chk_i (by omega) (chk_i (by omega) (ite_i (fun h2 => chk_i hO.1.1 ?_) fun h2 => absurd hc.2 h2)))
  have f1 : FR a D (up D a 8 0) := FR.up (by omega)
  have hb : 14 ≤ sAt N c ∧ sAt N c < 78 := by unfold sAt; omega
  refine c37_25 hO hL hB hC ht (by omega) ⟨hcp.1, hcp.2.1⟩ c.toNat 0 _ (ui N 78 0) (by omega) (Int.le_refl _) hV.u78 (by rw [ui_n (by omega)]; omega) (by rw [ui_s]; omega) ?_ (hK.fr hB f1) (hM.w_fc hL) fun D' h5 h6 => q D' h5 (f1.trans h6)
  rw [show ((c.toNat : Nat) : Int) = c by omega, sAt_ui (by decide), ui_n (by omega)]
  exact hcp.2.2
/-! how many would finish -/
theorem c36_in {ty n tot : Int} (hO : MO t a) (hM : MR t D a N) (hK : CR t D (t.2.1 a 0) G) (hC : CVd G) (hV : RVd (G 28 14) N) (ht : 0 ≤ ty ∧ ty ≤ 4) (hn : 0 ≤ n ∧ n < N 13) (htot : tot < 24) :
    ∀ (m : Nat) (p fin : Int) (o5 : Option qV), p + m = 3 → 0 ≤ p → (0 ≤ fin ∧ fin ≤ 24 + p) →
    ((sLp (G 38) (G 40) N n ty m p fin).1 = -1 → 3 * n + 3 ≤ tot ∧ ∀ o5, wp S 34 5 [some (qr a), some (qi tot), some (qi ty), some (qi (sLp (G 38) (G 40) N n ty m p fin).2), some (qi (3 * n + 3)), o5] [] t D Q) →
    (¬ (sLp (G 38) (G 40) N n ty m p fin).1 = -1 → tot = 3 * n + (sLp (G 38) (G 40) N n ty m p fin).1 ∧ Q (sLp (G 38) (G 40) N n ty m p fin).2 t D) →
    wp S 34 5 [some (qr a), some (qi tot), some (qi ty), some (qi fin), some (qi (3 * n + p)), o5] [] t D Q := by
  have h8 := hV.1
  have hl2 := hV.2.1 (N 13 - 1 - n) (by omega) (by omega)
  have h1 := hC.1
  have h2 := hC.2.1 _ hl2.1 hl2.2.1
  have e7 := hM.2.2.1
  have e3 := hM.2.2.2.1 (N 13 - 1 - n) (by omega) (by omega)
  have e5 := hK.2.2.2.1 _ hl2.1 hl2.2.1
  have ea : sAt N n = 14 + 8 * (N 13 - 1 - n) := rfl
  obtain ⟨o0, oc, o1, o2, o3, o4, o5', o6⟩ := id hO
  intro m
  induction m with
  | zero =>
    intro p fin o5 hm hp hf q1 q2
    obtain rfl : p = 3 := by omega
    exact (q1 rfl).2 _
  | succ m ih =>
    intro p fin o5 hm hp hf q1 q2
    have hr := sDA_r (G 40) N (N (14 + 8 * (N 13 - 1 - n))) p (N (14 + 8 * (N 13 - 1 - n) + 1)) ty
    have hrr := sLp_r (G 38) (G 40) N n ty (m + 1) p fin (by omega) hp hf.1
    have es : sLp (G 38) (G 40) N n ty (m + 1) p fin = if p < G 38 (N (sAt N n)) then
      (if sDA (G 40) N (N (sAt N n)) p (N (sAt N n + 1)) ty = 1 then (p, fin)
       else if sDA (G 40) N (N (sAt N n)) p (N (sAt N n + 1)) ty = 2 then sLp (G 38) (G 40) N n ty m (p + 1) (fin + 1)
       else sLp (G 38) (G 40) N n ty m (p + 1) fin)
      else (-1, fin) := rfl
    have hlt : 3 * n + p < tot ∨ (3 * n + p = tot ∧ Q fin t D) := by
      by_cases c : (sLp (G 38) (G 40) N n ty (m + 1) p fin).1 = -1
      · have := (q1 c).1; omega
      · have h9 := q2 c
        by_cases c2 : p < G 38 (N (sAt N n))
        · rw [if_pos c2] at es
          by_cases c3 : sDA (G 40) N (N (sAt N n)) p (N (sAt N n + 1)) ty = 1
          · rw [if_pos c3] at es
            rw [es] at h9
            exact .inr ⟨h9.1.symm, h9.2⟩
          · rw [if_neg c3] at es
            left
            have hr1 := sLp_r (G 38) (G 40) N n ty m (p + 1) (fin + 1) (by omega) (by omega) (by omega)
            have hr2 := sLp_r (G 38) (G 40) N n ty m (p + 1) fin (by omega) (by omega) (by omega)
            by_cases c4 : sDA (G 40) N (N (sAt N n)) p (N (sAt N n + 1)) ty = 2
            · rw [if_pos c4] at es; rw [es] at h9 c; omega
            · rw [if_neg c4] at es; rw [es] at h9 c; omega
        · rw [if_neg c2] at es
          rw [es] at c
          exact absurd rfl c
    rw [ea] at es
    rcases hlt with hlt | ⟨heq, hQ⟩
    · have hnot : p < G 38 (N (14 + 8 * (N 13 - 1 - n))) → ¬ sDA (G 40) N (N (14 + 8 * (N 13 - 1 - n))) p (N (14 + 8 * (N 13 - 1 - n) + 1)) ty = 1 := fun c2 c3 => by
        rw [if_pos c2, if_pos c3] at es
        have := q2 (by rw [es]; show ¬ p = -1; omega)
        rw [es] at this
        have := this.1
        omega
      have ed : (3 * n + p) / 3 = n := by omega
      have em : (3 * n + p) % 3 = p := by omega
      refine b36_5 (chk_i (by omega) (chk_i (by omega) (ite_i (fun _ => chk_i (by omega) (chk_i o0.1 ?_)) fun h => absurd hlt h)))
      rw [ed]
      refine c26 hO ?_
      rw [em, e7, e3]
      refine chk_i (by omega) (chk_i o0.1 (chk_i o0.1 (chk_i o3.1 (chk_i (by omega) (chk_i oc.1.1 (c3 oc (by omega) ?_))))))
      rw [e5]
      refine chk_i (by omega) (chk_i (by omega) (ite_i (fun c => ?_) fun c => ?_))
      · rw [if_pos c, if_neg (hnot c)] at es
        refine chk_i (by omega) (chk_i o0.1 (c35 hO hM hK hC hV (by omega) ⟨hp, c⟩ ht (chk_i (by omega) (ite_i (fun c2 => ?_) fun c2 => ?_))))
        · rw [if_pos c2] at es
          rw [es] at q1 q2
          rw [show 3 * n + p + 1 = 3 * n + (p + 1) by omega]
          exact ih (p + 1) (fin + 1) _ (by omega) (by omega) (by omega) q1 q2
        · rw [if_neg c2] at es
          rw [es] at q1 q2
          rw [show 3 * n + p + 1 = 3 * n + (p + 1) by omega]
          exact ih (p + 1) fin _ (by omega) (by omega) (by omega) q1 q2
      · rw [if_neg c] at es
        have es2 : sLp (G 38) (G 40) N n ty m (p + 1) fin = (-1, fin) := by
          cases m with
          | zero => rfl
          | succ m' =>
            show (if p + 1 < G 38 (N (sAt N n)) then _ else _) = _
            rw [ea, if_neg (by omega)]
        rw [es, ← es2] at q1 q2
        rw [show 3 * n + p + 1 = 3 * n + (p + 1) by omega]
        exact ih (p + 1) fin _ (by omega) (by omega) (by omega) q1 q2
    · exact b36_5 (chk_i (by omega) (chk_i (by omega) (ite_i (fun h => absurd h (by omega)) fun _ => hQ)))
theorem c36_o {ty c cp fr : Int} (hO : MO t a) (hM : MR t D a N) (hK : CR t D (t.2.1 a 0) G) (hC : CVd G) (hV : RVd (G 28 14) N) (ht : 0 ≤ ty ∧ ty ≤ 4) (hc : 0 ≤ c ∧ c < N 13) (hcp : 0 ≤ cp ∧ cp < 3) :
    ∀ (m : Nat) (n fin : Int) (o5 : Option qV), n + m = 8 → 0 ≤ n → (0 ≤ fin ∧ fin ≤ 3 * n) → sLc (G 38) (G 40) N ty m n fin = (c, (cp, fr)) → Q fr t D →
    wp S 34 5 [some (qr a), some (qi (3 * c + cp)), some (qi ty), some (qi fin), some (qi (3 * n)), o5] [] t D Q := by
  have h8 := hV.1
  intro m
  induction m with
  | zero =>
    intro n fin o5 hm hn hf e q
    have : c = -1 := (congrArg Prod.fst e).symm
    omega
  | succ m ih =>
    intro n fin o5 hm hn hf e q
    have e' : (if n < N 13 then (if (sLp (G 38) (G 40) N n ty 3 0 fin).1 = -1 then sLc (G 38) (G 40) N ty m (n + 1) (sLp (G 38) (G 40) N n ty 3 0 fin).2 else (n, sLp (G 38) (G 40) N n ty 3 0 fin)) else (-1, (-1, fin))) = (c, (cp, fr)) := e
    have hp := sLp_r (G 38) (G 40) N n ty 3 0 fin (by omega) (by omega) hf.1
    by_cases h1 : n < N 13
    · rw [if_pos h1] at e'
      have hin := c36_in (S := S) (Q := Q) (n := n) (tot := 3 * c + cp) hO hM hK hC hV ht ⟨hn, h1⟩ (by omega) 3 0 fin o5 rfl (Int.le_refl _) (by omega)
      rw [Int.add_zero] at hin
      refine hin (fun h2 => ?_) fun h2 => ?_
      · rw [if_pos h2] at e'
        have hr := sLc_r (G 38) (G 40) N ty m (n + 1) (sLp (G 38) (G 40) N n ty 3 0 fin).2 (by omega) (by omega) (by omega)
        rw [e'] at hr
        refine ⟨by omega, fun o => ?_⟩
        rw [show 3 * n + 3 = 3 * (n + 1) by omega]
        exact ih (n + 1) _ o (by omega) (by omega) (by omega) e' q
      · rw [if_neg h2] at e'
        have ec : n = c := congrArg Prod.fst e'
        have ep : sLp (G 38) (G 40) N n ty 3 0 fin = (cp, fr) := congrArg Prod.snd e'
        rw [ep]
        exact ⟨by show 3 * c + cp = 3 * n + cp; omega, q⟩
    · rw [if_neg h1] at e'
      have : c = -1 := (congrArg Prod.fst e').symm
      omega
theorem c36 {ty : Int} (hO : MO t a) (hM : MR t D a N) (hK : CR t D (t.2.1 a 0) G) (hC : CVd G) (hV : RVd (G 28 14) N) (ht : 0 ≤ ty ∧ ty ≤ 4) (hc : ¬ (sCat (G 38) (G 40) N ty).1 = -1)
    (q : Q (sCat (G 38) (G 40) N ty).2.2 t D) : wp S 34 0 [some (qr a), some (qi (3 * (sCat (G 38) (G 40) N ty).1 + (sCat (G 38) (G 40) N ty).2.1)), some (qi ty), none, none, none] [] t D Q := by
  have hr := sCat_r (G 38) (G 40) N ty
  refine b36_0 ?_
  have := c36_o (S := S) (Q := Q) (c := (sCat (G 38) (G 40) N ty).1) (cp := (sCat (G 38) (G 40) N ty).2.1) (fr := (sCat (G 38) (G 40) N ty).2.2) hO hM hK hC hV ht (by omega) (by omega) 8 0 0 none rfl (Int.le_refl _) (by omega) rfl q
  exact this
end KD
