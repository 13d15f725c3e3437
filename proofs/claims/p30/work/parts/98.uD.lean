/-! ## the law draws -/
theorem sUnw_9 {sv pm pd : Int → Int} {ty : Int} {E : qD} (hC : CVd E) (e1 : sv = E 34) (e2 : pm = E 38) (e3 : pd = E 40) {i : Int} (hi : i < 9) : ∀ (k : Nat) (N : Int → Int), RVd (E 28 14) N → k < N 13 → N 78 + 3 * k ≤ 24 → sUnw sv pm pd ty k N i = N i := by
  subst e1
  subst e2
  subst e3
  intro k
  induction k with
  | zero => intro N _ _ _; rfl
  | succ k ih =>
    intro N hV h13 h78
    have hu := sUn1_r (ty := ty) hC hV (by omega) (by omega)
    have ha := sAt_r hV (Int.le_refl 0) (by omega)
    have hf := sFin_r (ty := ty) (bef := E 38 (N (sAt N 0))) (pd := E 40) hC.1.2 (hC.2.1 _ ha.2.1.1 ha.2.1.2).2.2.2 3 0 N (Int.le_refl _) hV (by omega) (by omega)
    have := ih _ hu.2.1 (by rw [hu.2.2.1]; omega) (by have := hu.2.2.2.2.1; omega)
    show sUnw (E 34) (E 38) (E 40) ty k _ i = _
    rw [this]
    unfold sBack
    rw [ui_n (by omega), cpf_n (by omega)]
    exact hf.2.1 i (by omega)
theorem sRaise_9 {E : qD} {N : Int → Int} {ty c cp i : Int} (hC : CVd E) (hV : RVd (E 28 14) N) (hc : 0 ≤ c ∧ c < N 13) (hcp : 0 ≤ cp ∧ cp < E 38 (N (sAt N c))) (hi : i < 9) : sRaise (E 34) (E 38) (E 40) N ty c cp i = N i := by
  have h13 := hV.1
  have hb : 14 ≤ sAt N c ∧ sAt N c < 78 := by unfold sAt; omega
  have hu := sUnw_r (ty := ty) hC c.toNat (ui N 78 0) hV.u78 (by rw [ui_n (by omega)]; omega) (by rw [ui_s]; omega)
  have h9 := sUnw_9 (ty := ty) hC rfl rfl rfl hi c.toNat (ui N 78 0) hV.u78 (by rw [ui_n (by omega)]; omega) (by rw [ui_s]; omega)
  rw [ui_n (by omega), ui_s] at hu
  have es : sAt (sUnw (E 34) (E 38) (E 40) ty c.toNat (ui N 78 0)) 0 = sAt N c := by unfold sAt; rw [hu.2.1]; omega
  have hpc := hC.2.1 (N (sAt N c)) (by have := hV.2.1 (N 13 - 1 - c) (by omega) (by omega); unfold sAt; omega) (by have := hV.2.1 (N 13 - 1 - c) (by omega) (by omega); unfold sAt; omega)
  have hf := sFin_r (ty := ty) (bef := cp) (pd := E 40) hC.1.2 (by omega) 3 0 _ (Int.le_refl _) hu.1 (by omega) (by omega)
  show sEnd (E 40) ty cp (sUnw (E 34) (E 38) (E 40) ty c.toNat (ui N 78 0)) i = _
  unfold sEnd
  rw [es, ui_n (by omega), hf.2.1 i (by omega), h9, ui_n (by omega)]
theorem sCall_9 {E : qD} {N : Int → Int} {f i : Int} (hC : CVd E) (hV : RVd (E 28 14) N) (hf : 0 ≤ f ∧ f < E 28 14) (hi : i < 9) : sCall (E 37) (E 39) N f i = N i := by
  have h13 := hV.1
  unfold sCall
  rw [sSv_n hC hf _ _ _ _ _ (Int.le_refl 0) (by omega), ui_n (by omega)]
  unfold sClr
  rw [cpf_n (by omega), ui_n (by omega)]
theorem sStep_9 {E : qD} {N : Int → Int} {i : Int} (hC : CVd E) (hV : RVd (E 28 14) N) (h13 : 1 ≤ N 13) (hi : i < 9) : sStep (E 37) (E 39) N i = N i := by
  have ha := sAt_r hV (Int.le_refl 0) (by omega)
  unfold sStep
  rw [sSv_n hC ha.2.1 _ _ _ _ _ (Int.le_refl 0) (by omega), ui_n (by omega)]
theorem MWrg {am aw : Nat} {D : qD} {N : Int → Int} {k v : Int} (h : MW am aw D N) (hne : am ≠ aw) (hk : 0 ≤ k ∧ k < 4) : MW am aw (up D am k v) (ui N (9 + k) v) := by
  refine ⟨fun j x y => ?_, ?_, fun j x y => ?_⟩
  · rw [up_eq, upr_s]
    by_cases c : j = k
    · rw [c, ui_s, ui_s]
    · rw [ui_n c, ui_n (by omega)]; exact h.1 j x y
  · rw [up_eq, upr_s, ui_n (by omega), ui_n (by omega)]; exact h.2.1
  · rw [up_eq, upr_n (fun z => hne z.symm), ui_n (by omega)]; exact h.2.2 j x y
/-- what the trial's loop holds: its own machine in three new arrays -/
def DS (t0 : qT) (D0 G : qD) (a : Nat) (t : qT) (D : qD) (N : Int → Int) (c s : Nat) : Prop := KX a a t0 t D0 D c s ∧ (AR t a 6 ∧ AR t (a + 1) 64 ∧ AR t (a + 2) 32) ∧ MW a (a + 1) D N ∧ RVd (G 28 14) N ∧ ∀ i, 0 ≤ i → i < 9 → N i = G 42 i
theorem DS.st {t0 t t' : qT} {D0 D D' G : qD} {a x y : Nat} {N M : Int → Int} {c s c' s' c2 s2 : Nat} (h : DS t0 D0 G a t D N c s) (ha : a = t0.2.2.1) (hk : KX x y t t' D D' c' s') (hx : a ≤ x) (hy : a ≤ y) (hc : c + c' ≤ c2) (hs : s + s' ≤ s2) (hM : MW a (a + 1) D' M) (hV : RVd (G 28 14) M) (h9 : ∀ i, 0 ≤ i → i < 9 → M i = G 42 i) : DS t0 D0 G a t' D' M c2 s2 :=
  ⟨h.1.tr hk (Or.inr (Or.inr (by omega))) (Or.inr (Or.inr (by omega))) hc hs, ⟨h.2.1.1.k hk, h.2.1.2.1.k hk, h.2.1.2.2.k hk⟩, hM, hV, h9⟩
theorem LI.xk {t t' : qT} {D D' G : qD} (h : LI t D G) (hk : XK t t' D D' G) : LI t' D' G := by
  obtain ⟨hJ, hR, hT, h9, hM, hG⟩ := h
  have e : ∀ b, 28 ≤ b → b < 34 → D' b = D b := hk.2.1
  refine ⟨hk.1, hR, ?_, ?_, hM.cg (e 31 (by decide) (by decide)) (e 32 (by decide) (by decide)) (fun _ _ _ => rfl), ?_⟩
  · rw [e 28 (by decide) (by decide), e 30 (by decide) (by decide)]; exact hT
  · rw [e 29 (by decide) (by decide)]; exact h9
  · exact ⟨by rw [e 33 (by decide) (by decide)]; exact hG.1, fun i a b => by rw [e 33 (by decide) (by decide)]; exact hG.2 i a b⟩
section LD
variable {S : (Nat → Int32) × Nat} {t t0 : qT} {D D0 G : qD} {Q : Int → qT → qD → Prop} {a : Nat} {N : Int → Int} {c sp : Nat} {l6 l7 : Int}
set_option maxHeartbeats 4000000 in
theorem r114_47s {j o s : Int} {o15 o16 : Option qV} (hL : LI t0 D0 G) (ha : a = t0.2.2.1) (hS : DS t0 D0 G a t D N c sp) (hs : 0 ≤ s ∧ s < 2147483648) (hj : 0 ≤ j ∧ j < l6 ∧ l6 ≤ 99) (cont : ∀ t' D' l15 o16, DS t0 D0 G a t' D' (dOne G N s).1 (c + 14) (sp + 154) → wp S 114 267 [some (qs 0), some (qs 28), some (qs 29), some (qs 30), some (qs 31), some (qs 32), some (qi l6), some (qi l7), some (qr a), some (qr (a + 1)), some (qr (a + 2)), some (ql (dOne G N s).2.1), none, some (qi (o + (dOne G N s).2.2)), some (qi j), some (qi l15), o16] [] t' D' Q) : wp S 114 47 [some (qs 0), some (qs 28), some (qs 29), some (qs 30), some (qs 31), some (qs 32), some (qi l6), some (qi l7), some (qr a), some (qr (a + 1)), some (qr (a + 2)), some (ql s), none, some (qi o), some (qi j), o15, o16] [] t D Q := by
  have hS' := hS
  obtain ⟨hk, ⟨hA, hB, hC2⟩, hM, hV, h9⟩ := hS
  have hL' := hL.kx hk (by omega) (by omega)
  obtain ⟨⟨kk, hX⟩, hR, hT, hd9, hM0, hG⟩ := id hL'
  have hC := hR.1
  have hnf := hT.2.1
  have h13 := hV.1
  have h034 : 34 ≤ t0.2.2.1 := by obtain ⟨k0, hX0⟩ := hL.1; exact hX0.1
  have hA1 := hA.k1
  have hA2 : (t.1 a).2 = 6 := by rw [hA.1]
  have hB1 := hB.k1
  have hB2 : (t.1 (a + 1)).2 = 64 := by rw [hB.1]
  have hC1 := hC2.k1
  have hC3 : (t.1 (a + 2)).2 = 32 := by rw [hC2.1]
  have e4 : D a 4 = N 13 := hM.2.1
  have e00 : D 28 0 = G 28 14 := hT.1
  have r1 := dS_r s
  have r2 := dS_r (dS s)
  have r3 := dS_r (dS (dS s))
  have hso : 0 ≤ dS s / 65536 % 4 ∧ dS s / 65536 % 4 < 4 := by omega
  have eso : dS s / 65536 % 4 = dV (dS s) 4 := rfl
  apply lb114_47
  refine chk_i (by first | assumption | decide | omega) ?_
  refine chk_i (by first | assumption | decide | omega) ?_
  refine ite_i (fun _ => ?_) (fun h => absurd (by first | rfl | decide | omega) h)
  refine r115 hs ?_
  rw [eso]
  refine chk_i (by omega) (chk_i (by omega) (chk_i (by omega) (ite_i (fun c1 => ?_) fun c1 => ?_)))
  · -- a way on
    have eO : dOne G N s = (if 0 < N 13 ∧ N (sAt N 0 + 1) < 9 then sStep (G 37) (G 39) N else N, (dS s, 0)) := by
      unfold dOne
      rw [if_neg (by omega), if_pos c1]
    rw [eO] at cont
    have same : ¬ (0 < N 13 ∧ N (sAt N 0 + 1) < 9) → ∀ l15 o16, wp S 114 267 [some (qs 0), some (qs 28), some (qs 29), some (qs 30), some (qs 31), some (qs 32), some (qi l6), some (qi l7), some (qr a), some (qr (a + 1)), some (qr (a + 2)), some (ql (dS s)), none, some (qi o), some (qi j), some (qi l15), o16] [] t D Q := by
      intro hn l15 o16
      rw [if_neg hn] at cont
      have := cont t D l15 o16 (hS'.st ha (KX.z (a1 := a) (a2 := a)) (Nat.le_refl _) (Nat.le_refl _) (by omega) (by omega) hM hV h9)
      rw [show o + (N, (dS s, (0 : Int))).2.2 = o from Int.add_zero o] at this
      exact this
    rw [e4]
    refine chk_i hA1 (chk_i (by omega) (chk_i (by omega) (ite_i (fun cn => ?_) fun cn => same (fun z => cn z.1) _ _)))
    have ew : D (a + 1) (8 * N 13 - 7) = N (sAt N 0 + 1) := by
      rw [hM.2.2 _ (by omega) (by omega)]
      congr 1
      unfold sAt; omega
    have hat := sAt_r hV (Int.le_refl 0) (by omega)
    rw [ew]
    refine chk_i hA1 (chk_i (by omega) (chk_i hB1 (chk_i (by omega) (chk_i (by omega) (ite_i (fun c9 => ?_) fun c9 => same (fun z => c9 z.2) _ _)))))
    refine chk_i hA1 (chk_i (by omega) (chk_i hB1 (chk_i (by omega) ?_)))
    refine r102 hT hA hB (by omega) hM (by omega) hat.2.1 (by omega) fun D' g1 g2 => ?_
    rw [if_pos ⟨cn, c9⟩] at cont
    have := cont t D' (dV (dS s) 4) o16 (hS'.st (M := sStep (G 37) (G 39) N) ha (KX.d (a1 := a + 1) (a2 := a + 1) fun b h _ => g1 b h) (by omega) (by omega) (by omega) (by omega) g2 (RVd.step hC (by omega) c9 hV) fun i x y => by rw [sStep_9 hC hV (by omega) y]; exact h9 i x y)
    rw [show o + (sStep (G 37) (G 39) N, (dS s, (0 : Int))).2.2 = o from Int.add_zero o] at this
    exact this
  · refine lb114_132 (r115 r1 ?_)
    have fin : ∀ (so v : Int), so ≠ 3 → qR so → ∀ t' D' (M : Int → Int) (s' : Int), dOne G N s = (M, (s', 0)) → DS t0 D0 G a t' D' M (c + 14) (sp + 154) → wp S 114 226 [some (qs 0), some (qs 28), some (qs 29), some (qs 30), some (qs 31), some (qs 32), some (qi l6), some (qi l7), some (qr a), some (qr (a + 1)), some (qr (a + 2)), some (ql s'), none, some (qi o), some (qi j), some (qi so), some (qi v)] [] t' D' Q := by
      intro so v h3 hq t' D' M s' e hd
      rw [e] at cont
      refine lb114_226 (chk_i hq (ite_i (fun h => absurd h h3) fun _ => ?_))
      have := cont t' D' so (some (qi v)) hd
      rw [show o + (M, (s', (0 : Int))).2.2 = o from Int.add_zero o] at this
      exact this
    rcases (show dV (dS s) 4 = 0 ∨ dV (dS s) 4 = 2 ∨ dV (dS s) 4 = 3 by omega) with c0 | c2 | c3
    · -- a call
      rw [c0]
      have hv := dV_r (s := dS (dS s)) (b := G 28 14) (by omega)
      apply lb114_139
      rw [e00]
      refine chk_i (by omega) (chk_i (by decide) (ite_i (fun _ => ?_) fun h => absurd rfl h))
      refine lb114_167 (chk_i (by omega) (chk_i (by omega) (chk_i (by omega) ?_)))
      rw [show dS (dS s) / 65536 % G 28 14 = dV (dS (dS s)) (G 28 14) from rfl]
      apply lb114_172
      rw [e4]
      have eO : dOne G N s = (if N 13 < 8 then sCall (G 37) (G 39) N (dV (dS (dS s)) (G 28 14)) else N, (dS (dS s), 0)) := by
        unfold dOne
        rw [if_pos c0]
      refine chk_i (by decide) (ite_i (fun _ => chk_i hA1 (chk_i (by omega) (chk_i (by omega) (ite_i (fun c8 => ?_) fun c8 => ?_)))) fun h => absurd rfl h)
      · refine r103 hT hA hB (by omega) hM (by omega) hv fun D' g1 g2 => ?_
        refine lb114_197 (chk_i (by decide) (ite_i (fun h => absurd h (by decide)) fun _ => ?_))
        rw [if_pos c8] at eO
        exact fin 0 _ (by decide) (by decide) t D' _ _ eO (hS'.st ha (KX.d (a1 := a) (a2 := a + 1) fun b h1 h2 => g1 b h1 h2) (by omega) (by omega) (by omega) (by omega) g2 (RVd.call hC hv c8 hV) fun i x y => by rw [sCall_9 hC hV hv y]; exact h9 i x y)
      · refine lb114_197 (chk_i (by decide) (ite_i (fun h => absurd h (by decide)) fun _ => ?_))
        rw [if_neg c8] at eO
        exact fin 0 _ (by decide) (by decide) t D _ _ eO (hS'.st ha (KX.z (a1 := a) (a2 := a)) (Nat.le_refl _) (Nat.le_refl _) (by omega) (by omega) hM hV h9)
    · -- a register set
      rw [c2]
      have hv := dV_r (s := dS (dS s)) (b := 4) (by decide)
      have hv2 := dV_r (s := dS (dS (dS s))) (b := 1000) (by decide)
      refine lb114_139 (chk_i (by omega) (chk_i (by decide) (ite_i (fun h => absurd h (by decide)) fun _ => chk_i (by decide) (ite_i (fun _ => ?_) fun h => absurd rfl h))))
      refine lb114_167 (chk_i (by decide) (chk_i (by omega) (chk_i (by decide) ?_)))
      rw [show dS (dS s) / 65536 % 4 = dV (dS (dS s)) 4 from rfl]
      refine lb114_172 (chk_i (by decide) (ite_i (fun h => absurd h (by decide)) fun _ => ?_))
      refine lb114_197 (chk_i (by decide) (ite_i (fun _ => ?_) fun h => absurd rfl h))
      refine r115 r2 (chk_i (by omega) (chk_i (by omega) (chk_i hA1 (chk_i (by omega) ?_))))
      rw [show dS (dS (dS s)) / 65536 % 1000 = dV (dS (dS (dS s))) 1000 from rfl]
      have eO : dOne G N s = (ui N (9 + dV (dS (dS s)) 4) (dV (dS (dS (dS s))) 1000), (dS (dS (dS s)), 0)) := by
        unfold dOne
        rw [if_neg (by omega), if_neg (by omega), if_pos c2]
      exact fin 2 _ (by decide) (by decide) t _ _ _ eO (hS'.st ha (KX.d (a1 := a) (a2 := a) fun b h1 _ => by rw [up_eq, upr_n h1]) (Nat.le_refl _) (Nat.le_refl _) (by omega) (by omega) (MWrg hM (by omega) (by omega)) (hV.rg (by omega) (by omega)) fun i x y => by rw [ui_n (by omega)]; exact h9 i x y)
    · -- thrown
      rw [c3]
      have hv := dV_r (s := dS (dS s)) (b := 5) (by decide)
      refine lb114_139 (chk_i (by omega) (chk_i (by decide) (ite_i (fun h => absurd h (by decide)) fun _ => chk_i (by decide) (ite_i (fun h => absurd h (by decide)) fun _ => ?_))))
      refine lb114_167 (chk_i (by decide) (chk_i (by omega) (chk_i (by decide) ?_)))
      rw [show dS (dS s) / 65536 % 5 = dV (dS (dS s)) 5 from rfl]
      refine lb114_172 (chk_i (by decide) (ite_i (fun h => absurd h (by decide)) fun _ => ?_))
      refine lb114_197 (chk_i (by decide) (ite_i (fun h => absurd h (by decide)) fun _ => ?_))
      refine lb114_226 (chk_i (by decide) (ite_i (fun _ => ?_) fun h => absurd rfl h))
      generalize hty : dV (dS (dS s)) 5 = ty at hv
      have eO : dOne G N s = dThr G N (dS (dS s)) ty := by
        unfold dOne
        rw [if_neg (by omega), if_neg (by omega), if_neg (by omega), hty]
      refine r106 hT hC hV hA hB hC2 (by omega) (by omega) (fun i x y => (hd9 i x y).trans (h9 i x y).symm) hM (by omega) fun D1 g1 g2 g3 g4 g5 => ?_
      have k1 : KX (a + 2) (a + 2) t t D D1 0 0 := KX.d fun b h _ => g1 b h
      have hM1 : MW a (a + 1) D1 N := hM.cg (g1 a (by omega)) (g1 (a + 1) (by omega)) fun _ _ _ => rfl
      have hq0 : qR (sCat (G 38) (G 40) N ty).1 := by
        by_cases cc : (sCat (G 38) (G 40) N ty).1 = -1
        · rw [cc]; decide
        · have := sCat_cp hV ty cc; omega
      unfold dThr at eO
      rw [g2]
      refine chk_i hC1 (chk_i (by omega) (chk_i hq0 (ite_i (fun cl => ?_) fun cl => ?_)))
      · have cm : (sCat (G 38) (G 40) N ty).1 = -1 := by
          by_cases cc : (sCat (G 38) (G 40) N ty).1 = -1
          · exact cc
          · have := sCat_cp hV ty cc; omega
        rw [if_pos cm] at eO
        rw [eO] at cont
        have := cont t D1 3 (some (qi ty)) (hS'.st ha k1 (by omega) (by omega) (by omega) (by omega) hM1 hV h9)
        rw [show o + (N, (dS (dS s), (0 : Int))).2.2 = o from Int.add_zero o] at this
        exact this
      · have cc : ¬ (sCat (G 38) (G 40) N ty).1 = -1 := by omega
        have hcp := sCat_cp hV ty cc
        have hS1 := hS'.st ha k1 (by omega) (by omega) (Nat.le_refl _) (Nat.le_refl _) hM1 hV h9
        rw [if_neg cc] at eO
        rw [eO] at cont
        refine r107 (ty := ty) (by rw [g1 28 (by omega), g1 30 (by omega)]; exact hT) hC hV hA hB hC2 (by omega) (by omega) (by omega) hM1 hcp.1 ⟨hcp.2.1, hcp.2.2.2⟩ g2 g3 fun t2 D2 k2 g6 => ?_
        have hr := sRaise_r (ty := ty) (c := (sCat (G 38) (G 40) N ty).1) (cp := (sCat (G 38) (G 40) N ty).2.1) hC hV hcp.1 ⟨hcp.2.1, hcp.2.2.2⟩
        exact cont t2 D2 _ _ (hS1.st ha k2 (Nat.le_refl _) (by omega) (by omega) (by omega) g6 hr.1 fun i x y => (sRaise_9 hC hV hcp.1 ⟨hcp.2.1, hcp.2.2.2⟩ y).trans (h9 i x y))
theorem r114_273 {s o l14 : Int} {o15 o16 : Option qV} (hL : LI t0 D0 G) (ha : a = t0.2.2.1) (hS : DS t0 D0 G a t D N c sp) (h6 : 1 ≤ l6 ∧ l6 ≤ 99) (h7 : 0 ≤ l7 ∧ l7 < 2147483648) (ho : 0 ≤ o ∧ o ≤ 99) (hs : 0 ≤ s ∧ s < 2147483648) (e : dMany G l6.toNat (G 42) l7 0 = (N, (s, o))) (q : ∀ t' D', LI t' D' G → t'.2.2.1 ≤ t.2.2.1 + 72 → t'.2.2.2 ≤ t.2.2.2 + 1800 → Q 1 t' D') : wp S 114 273 [some (qs 0), some (qs 28), some (qs 29), some (qs 30), some (qs 31), some (qs 32), some (qi l6), some (qi l7), some (qr a), some (qr (a + 1)), some (qr (a + 2)), some (ql s), none, some (qi o), some (qi l14), o15, o16] [] t D Q := by
  obtain ⟨hk, ⟨hA, hB, hC2⟩, hM, hV, h9⟩ := hS
  have hL' := hL.kx hk (by omega) (by omega)
  obtain ⟨⟨kk, hX⟩, hR, hT, -, -, -⟩ := id hL'
  have hnf := hT.2.1
  have h13 := hV.1
  have ev : ∀ w, vDrawn G l6 l7 w = if ¬ (0 ≤ w ∧ w ≤ 2) then -102 else if w = 0 then o else if w = 1 then N 13 else s := by
    intro w
    unfold vDrawn
    rw [if_neg (by omega), if_neg (by omega), e]
    by_cases hw : ¬ (0 ≤ w ∧ w ≤ 2)
    · rw [if_pos hw, if_pos hw]
    · rw [if_neg hw, if_neg hw, if_neg (by omega)]
  have e0 : vDrawn G l6 l7 0 = o := by rw [ev 0]; rfl
  have e1 : vDrawn G l6 l7 1 = N 13 := by rw [ev 1]; rfl
  have e2 : vDrawn G l6 l7 2 = s := by rw [ev 2]; rfl
  apply lb114_273
  refine x90k (n := l6) (s := l7) hX hR (by omega) (by omega) (by decide) fun t1 D1 x1 p1 n1 => ?_
  have hL1 := hL'.xk x1
  obtain ⟨⟨k1, hX1⟩, -, -, -, -, -⟩ := id hL1
  rw [e0]
  refine chk_i (by omega) (chk_i (by omega) (ite_i (fun _ => ?_) fun h => absurd rfl h))
  refine x90k hX1 hR (by omega) (by omega) (by decide) fun t2 D2 x2 p2 n2 => ?_
  have hL2 := hL1.xk x2
  obtain ⟨⟨k2, hX2⟩, -, -, -, -, -⟩ := id hL2
  have hal := hA.2.2
  have d2 : D2 a = D a := ((p2 a (by omega)).2.2).trans (p1 a hal).2.2
  have t2a : t2.1 a = (10, 6) := ((p2 a (by omega)).1).trans ((p1 a hal).1.trans hA.1)
  have hT1 : (t2.1 a).1 = 10 := by rw [t2a]
  have hT2 : (t2.1 a).2 = 6 := by rw [t2a]
  rw [e1, d2, hM.2.1]
  refine chk_i hT1 (chk_i (by omega) (chk_i (by omega) (chk_i (by omega) (ite_i (fun _ => ?_) fun h => absurd rfl h))))
  refine x90k hX2 hR (by omega) (by omega) (by decide) fun t3 D3 x3 p3 n3 => ?_
  rw [e2]
  refine chk_i (by omega) (chk_i (Or.inl rfl) (chk_i qcmp_R (ite_i (fun _ => ?_) fun h => ?_)))
  · have y1 := x1.2.2
    have y2 := x2.2.2
    have y3 := x3.2.2
    exact q t3 D3 (hL2.xk x3) (by omega) (by omega)
  · refine absurd ?_ h
    unfold qcmp
    rw [if_neg (Int.lt_irrefl _), if_pos rfl]
theorem r114_47 (hL : LI t0 D0 G) (ha : a = t0.2.2.1) (h6 : 1 ≤ l6 ∧ l6 ≤ 99) (h7 : 0 ≤ l7 ∧ l7 < 2147483648) (q : ∀ t' D', LI t' D' G → t'.2.2.1 ≤ t0.2.2.1 + 1500 → t'.2.2.2 ≤ t0.2.2.2 + 17500 → Q 1 t' D') :
    ∀ (m : Nat) (j o s : Int) (N : Int → Int) (t : qT) (D : qD) (c sp : Nat) (o15 o16 : Option qV), j + m = l6 → 0 ≤ j → (0 ≤ o ∧ o ≤ j) → (0 ≤ s ∧ s < 2147483648) → DS t0 D0 G a t D N c sp → c + 14 * m ≤ 1400 → sp + 154 * m ≤ 15500 → dMany G l6.toNat (G 42) l7 0 = dMany G m N s o → wp S 114 47 [some (qs 0), some (qs 28), some (qs 29), some (qs 30), some (qs 31), some (qs 32), some (qi l6), some (qi l7), some (qr a), some (qr (a + 1)), some (qr (a + 2)), some (ql s), none, some (qi o), some (qi j), o15, o16] [] t D Q := by
  intro m
  induction m with
  | zero =>
    intro j o s N t D c sp o15 o16 hj h0 ho hs hS hc hsp e
    apply lb114_47
    refine chk_i (by first | assumption | decide | omega) ?_
    refine chk_i (by first | assumption | decide | omega) ?_
    refine ite_i (fun h => absurd h (by first | decide | omega)) (fun _ => ?_)
    have y := hS.1.1
    exact r114_273 hL ha hS h6 h7 ⟨ho.1, by omega⟩ hs e fun t' D' h1 h2 h3 => q t' D' h1 (by omega) (by omega)
  | succ m ih =>
    intro j o s N t D c sp o15 o16 hj h0 ho hs hS hc hsp e
    have hnf := hL.2.2.1.2.1
    have hr := dOne_r (D := G) (s := s) hL.2.1.1 (by omega) hS.2.2.2.1
    refine r114_47s hL ha hS hs ⟨h0, by omega, h6.2⟩ fun t' D' l15 o16 hS' => lb114_267 ?_
    exact ih (j + 1) (o + (dOne G N s).2.2) (dOne G N s).2.1 (dOne G N s).1 t' D' (c + 14) (sp + 154) _ _ (by omega) (by omega) (by have := hr.2.2; omega) hr.2.1 hS' (by omega) (by omega) e
/-- draws by a seed -/
theorem r114 (hL : LI t D G) (h6 : 1 ≤ l6 ∧ l6 ≤ 99) (h7 : 0 ≤ l7 ∧ l7 < 2147483648) (q : ∀ t' D', LI t' D' G → t'.2.2.1 ≤ t.2.2.1 + 1500 → t'.2.2.2 ≤ t.2.2.2 + 17500 → Q 1 t' D') : wp S 114 0 [some (qs 0), some (qs 28), some (qs 29), some (qs 30), some (qs 31), some (qs 32), some (qi l6), some (qi l7), none, none, none, none, none, none, none, none, none] [] t D Q := by
  obtain ⟨⟨kk, hX⟩, hR, hT, h9, hM, hG⟩ := id hL
  have h34 := hX.1
  refine wp_st fun hqs => ?_
  have h31 : AR t 31 6 := AR.s hqs (by decide) rfl
  have h32 : AR t 32 64 := AR.s hqs (by decide) rfl
  generalize hn : t.2.2.1 = a at *
  have k1 : KX a a t (nwT t.1 t.2.2.1 (10, 6), nwP t.2.1 t.2.2.1, (t.2.2.1 + 1, t.2.2.2 + 6)) D (upr D t.2.2.1 (fun _ => 0)) 1 6 := KX.nw
  apply lb114_0
  rw [hn] at k1 ⊢
  have a1 : AR (nwT t.1 a (10, 6), nwP t.2.1 a, (a + 1, t.2.2.2 + 6)) a 6 := ⟨if_pos rfl, by omega, Nat.lt_succ_self _⟩
  have k2 : KX a a (nwT t.1 a (10, 6), nwP t.2.1 a, (a + 1, t.2.2.2 + 6)) (nwT (nwT t.1 a (10, 6)) (a + 1) (10, 64), nwP (nwP t.2.1 a) (a + 1), (a + 1 + 1, t.2.2.2 + 6 + 64)) (upr D a (fun _ => 0)) (upr (upr D a (fun _ => 0)) (a + 1) (fun _ => 0)) 1 64 := KX.nw (t := (nwT t.1 a (10, 6), nwP t.2.1 a, (a + 1, t.2.2.2 + 6)))
  have k3 : KX a a (nwT (nwT t.1 a (10, 6)) (a + 1) (10, 64), nwP (nwP t.2.1 a) (a + 1), (a + 1 + 1, t.2.2.2 + 6 + 64)) (nwT (nwT (nwT t.1 a (10, 6)) (a + 1) (10, 64)) (a + 1 + 1) (10, 32), nwP (nwP (nwP t.2.1 a) (a + 1)) (a + 1 + 1), (a + 1 + 1 + 1, t.2.2.2 + 6 + 64 + 32)) (upr (upr D a (fun _ => 0)) (a + 1) (fun _ => 0)) (upr (upr (upr D a (fun _ => 0)) (a + 1) (fun _ => 0)) (a + 1 + 1) (fun _ => 0)) 1 32 := KX.nw (t := (nwT (nwT t.1 a (10, 6)) (a + 1) (10, 64), nwP (nwP t.2.1 a) (a + 1), (a + 1 + 1, t.2.2.2 + 6 + 64)))
  have a2 : AR (nwT (nwT t.1 a (10, 6)) (a + 1) (10, 64), nwP (nwP t.2.1 a) (a + 1), (a + 1 + 1, t.2.2.2 + 6 + 64)) (a + 1) 64 := ⟨if_pos rfl, by omega, Nat.lt_succ_self _⟩
  have a3 : AR (nwT (nwT (nwT t.1 a (10, 6)) (a + 1) (10, 64)) (a + 1 + 1) (10, 32), nwP (nwP (nwP t.2.1 a) (a + 1)) (a + 1 + 1), (a + 1 + 1 + 1, t.2.2.2 + 6 + 64 + 32)) (a + 1 + 1) 32 := ⟨if_pos rfl, by omega, Nat.lt_succ_self _⟩
  have kk3 := (k1.tr k2 (c2 := 2) (s2 := 70) (Or.inl rfl) (Or.inl rfl) (by omega) (by omega)).tr k3 (c2 := 3) (s2 := 102) (Or.inl rfl) (Or.inl rfl) (by omega) (by omega)
  have b1 := (a1.k k2).k k3
  have b2 := a2.k k3
  have b31 := h31.k kk3
  have b32 := h32.k kk3
  generalize hu : ((nwT (nwT (nwT t.1 a (10, 6)) (a + 1) (10, 64)) (a + 1 + 1) (10, 32), nwP (nwP (nwP t.2.1 a) (a + 1)) (a + 1 + 1), (a + 1 + 1 + 1, t.2.2.2 + 6 + 64 + 32)) : qT) = u at *
  generalize upr (upr (upr D a (fun _ => 0)) (a + 1) (fun _ => 0)) (a + 1 + 1) (fun _ => 0) = E at *
  have eE : ∀ b, b < a → E b = D b := fun b hb => (kk3.2 b (by omega)).2.2 (by omega) (by omega)
  refine wp_cg (L := [some (qr a), some (qr 31), some (qi 6), none]) (st := []) rfl rfl ?_
  refine r110 (by decide) ⟨b1.k1, by rw [b1.1]; decide⟩ ⟨b31.k1, by rw [b31.1]; decide⟩ (by omega) fun D1 g1 g2 => ?_
  refine wp_cg (L := [some (qr (a + 1)), some (qr 32), some (qi 64), none]) (st := []) rfl rfl ?_
  refine r110 (by decide) ⟨b2.k1, by rw [b2.1]; decide⟩ ⟨b32.k1, by rw [b32.1]; decide⟩ (by omega) fun D2 g3 g4 => chk_i (by omega) ?_
  have hK : KX a a t u D D2 3 102 := (kk3.tr (KX.d (a1 := a) (a2 := a) fun b h _ => g1 b h) (c2 := 3) (s2 := 102) (Or.inl rfl) (Or.inl rfl) (by omega) (by omega)).tr (KX.d (a1 := a + 1) (a2 := a + 1) fun b h _ => g3 b h) (Or.inr (Or.inr (by omega))) (Or.inr (Or.inr (by omega))) (by omega) (by omega)
  have hM2 : MW a (a + 1) D2 (G 42) := by
    refine ⟨fun k x y => ?_, ?_, fun i x y => ?_⟩
    · rw [g3 a (by omega), g2 k x (by omega), eE 31 (by omega)]; exact hM.1 k x y
    · rw [g3 a (by omega), g2 4 (by decide) (by decide), eE 31 (by omega)]; exact hM.2.1
    · rw [g4 i x y, g1 32 (by omega), eE 32 (by omega)]; exact hM.2.2 i x y
  exact r114_47 hL hn.symm h6 h7 (by rw [hn]; exact q) l6.toNat 0 0 l7 (G 42) u D2 3 102 _ _ (by omega) (Int.le_refl _) (by decide) h7 ⟨hK, ⟨b1, b2, a3⟩, hM2, hR.2.1, fun _ _ _ => rfl⟩ (by omega) (by omega) rfl
end LD
