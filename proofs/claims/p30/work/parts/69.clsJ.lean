/-! ## the class's go, undo, image, restore, sights, page -/
section KJ
variable {S : (Nat → Int32) × Nat} {t : qT} {D G : qD} {Q : Int → qT → qD → Prop} {k a : Nat} {N : Int → Int}
theorem c78_48 {b : Int} (hO : MO t a) (hL : ML t a) (h05 : t.2.1 0 5 = a) (hB : CB t (t.2.1 a 0) a) (hC : CVd G) (hb : qR b) :
    ∀ (m : Nat) (j : Int) (D : qD) (N : Int → Int), j + m = b → 0 ≤ j → RVd (G 28 14) N → 1 ≤ N 13 → N (sAt N 0 + 1) + m ≤ 9 → CR t D (t.2.1 a 0) G → MR t D a N →
    (∀ D', MR t D' a (sGo (G 37) (G 39) m N) → FR a D D' → Q (sGo (G 37) (G 39) m N (sAt N 0 + 1)) t D') → wp S 73 48 [some (qs 0), some (qi b), some (qi j)] [] t D Q := by
  intro m
  induction m with
  | zero =>
    intro j D N hj h0 hN h13 h9 hK hM q
    have h8 := hN.1
    refine b78_48 (chk_i (by omega) (chk_i hb (ite_i (fun c => absurd c (by omega)) fun c => ?_)))
    rw [h05]
    exact chk_i hO.1.1 (c27 hO hM (by omega) (q D hM FR.rfl'))
  | succ m ih =>
    intro j D N hj h0 hN h13 h9 hK hM q
    refine b78_48 (chk_i (by omega) (chk_i hb (ite_i (fun c => ?_) fun c => absurd (by omega) c)))
    rw [h05]
    refine chk_i hO.1.1 (c29 hO hL hB hC hK hM hN h13 fun D' hM' hF => ?_)
    have h13' := sStep_13 hC h13 hN
    have hV' := hN.step hC h13 (by omega)
    refine ih (j + 1) D' _ (by omega) (by omega) hV' (by omega) (by rw [h13'.2.1, h13'.2.2.2]; omega) (hK.fr hB hF) hM' fun D'' h1 h2 => ?_
    rw [h13'.2.1]
    exact q D'' h1 (hF.trans h2)
theorem x78 {b : Int} (hX : XJ t D G k) (hG : RVs G) (hb : qR b) (q : ∀ t' D', XK t t' D D' (pGo G b).2 → Q (pGo G b).1 t' D') : wp S 73 0 [some (qs 0), some (qi b), none] [] t D Q := by
  have h13 := hG.2.1.1
  have hm := hX.2.2.2.1
  have e7 := hm.2.2.1.2.2.1
  unfold pGo at q
  refine b78_0 (chk_i hb (ite_i (fun c => ?_) fun c => chk_i hb (ite_i (fun c2 => chk_i hm.1.1.1 (chk_i (by omega) (ite_i (fun c3 => ?_) fun c3 => chk_i hm.1.1.1 (c27 hm.1 hm.2.2.1 (by omega) ?_)))) fun c2 => ?_)))
  · rw [if_pos (by omega)] at q
    exact q _ _ (XK.same hX)
  · rw [if_neg (fun z => z ⟨by omega, by omega⟩), if_pos (by omega)] at q
    exact q _ _ (XK.same hX)
  · have ha := sAt_r hG.2.1 (Int.le_refl 0) (by omega)
    rw [if_neg (fun z => z ⟨by omega, by omega⟩), if_neg (by omega)] at q
    refine chk_i (by omega) (ite_i (fun c4 => c101 hX hG fun t' D' hB => ?_) fun c4 => ?_)
    · rw [if_neg (by omega)] at q
      obtain ⟨⟨n1, n2, n3⟩, ⟨hO, hL, hk, hM⟩, ⟨hCB, hCR⟩, hKR, -⟩ := id hB
      have hg := sGo_r hG.1 b.toNat (G 42) hG.2.1 (by omega) (by omega)
      refine c78_48 hO hL n3 (by rw [hk]; exact hCB) hG.1 hb b.toNat 0 D' (G 42) (by omega) (Int.le_refl _) hG.2.1 (by omega) (by omega) (by rw [hk]; exact hCR) hM fun D'' h1 h2 => ?_
      rw [hg.2.2, show ((b.toNat : Nat) : Int) = b by omega]
      exact q _ _ (hB.fin rfl hX.1 hg.1 h2 h1)
    · rw [if_pos (by omega)] at q
      exact q _ _ (XK.same hX)
  · rw [if_pos (by omega)] at q
    exact q _ _ (XK.same hX)
/-- a change of the sights, of the page, of the reference's cells beside -/
theorem XJ.cg {t t' : qT} {D D' G G' : qD} (h : XJ t D G k) (hk : KI t t' D D') (p05 : t'.2.1 0 5 = t.2.1 0 5) (p06 : t'.2.1 0 6 = t.2.1 0 6) (p4 : t'.2.1 4 = t.2.1 4) (p6 : t'.2.1 6 = t.2.1 6)
    (d0 : D' 0 7 = D 0 7) (d3 : D' 3 = D 3) (d5 : D' 5 = D 5) (d11 : D' 11 = D 11 ∧ D' 12 = D 12 ∧ D' 13 = D 13 ∧ D' 14 = D 14)
    (g28 : ∀ i, i ≠ 1 → i ≠ 31 → (i = 14 ∨ i = 15 ∨ i = 27 ∨ 35 ≤ i ∧ i ≤ 37) → G' 28 i = G 28 i) (gn : ∀ b, 34 ≤ b → b < 49 → b ≠ 41 → b ≠ 44 → b ≠ 45 → G' b = G b)
    (hp : PGr D' G') (hs : SRl D' 7 8 9 10 (G' 44) (G' 28 31)) : XJ t' D' G' k := by
  obtain ⟨hn, hP, hC, hc, hH, hS, h35, hE⟩ := h
  have g14 := g28 14 (by decide) (by decide) (by decide)
  have g15 := g28 15 (by decide) (by decide) (by decide)
  have g27 := g28 27 (by decide) (by decide) (by decide)
  have g35 := g28 35 (by decide) (by decide) (by decide)
  have g36 := g28 36 (by decide) (by decide) (by decide)
  have g37 := g28 37 (by decide) (by decide) (by decide)
  refine ⟨by have := hk.1; omega, ⟨hp, by rw [d0, g15]; exact hP.2⟩, ⟨hC.1.ki hk, ?_⟩, ?_, ?_, hs, by rw [g35, g15]; exact h35, ?_⟩
  · have := hC.2.ki hC.1 hk
    unfold CR
    rw [g14, gn 34 (by decide) (by decide) (by decide) (by decide) (by decide), gn 35 (by decide) (by decide) (by decide) (by decide) (by decide), gn 36 (by decide) (by decide) (by decide) (by decide) (by decide), gn 37 (by decide) (by decide) (by decide) (by decide) (by decide), gn 38 (by decide) (by decide) (by decide) (by decide) (by decide), gn 39 (by decide) (by decide) (by decide) (by decide) (by decide), gn 40 (by decide) (by decide) (by decide) (by decide) (by decide)]
    exact this
  · rw [g14, p05, gn 42 (by decide) (by decide) (by decide) (by decide) (by decide)]
    exact hc.ki hk
  · rw [g14, g27, gn 43 (by decide) (by decide) (by decide) (by decide) (by decide)]
    exact hH.ki hk p4 (fun i => by rw [d3]) (fun _ _ _ => rfl)
  · exact hE.cg hk p06 p6 d5 d11 ⟨g14, g15, g35, g36, g37, gn 46 (by decide) (by decide) (by decide) (by decide) (by decide), gn 47 (by decide) (by decide) (by decide) (by decide) (by decide), gn 48 (by decide) (by decide) (by decide) (by decide) (by decide)⟩
theorem XK.d {D' G' : qD} (h : XJ t D' G' k) (hd : ∀ b, 28 ≤ b → b < 34 → D' b = D b) : XK t t D D' G' := ⟨⟨k, h⟩, hd, by omega, by omega⟩
theorem KI.d {D D' : qD} (h : ∀ b, 15 ≤ b → D' b = D b) : KI t t D D' := ⟨Nat.le_refl _, fun b hb => ⟨rfl, rfl, h b (by have := hb.2; omega)⟩⟩
theorem x68 {c : Int} (hX : XJ t D G k) (hG : RVs G) (hc : qR c) (q : ∀ t' D', XK t t' D D' (pLetter G c).2 → Q (pLetter G c).1 t' D') : wp S 64 0 [some (qs 0), some (qi c)] [] t D Q := by
  have hp := hX.2.1.1
  have h1 := hG.2.2.2.2.1
  unfold pLetter at q
  refine b68_0 (chk_i hc (ite_i (fun c1 => ?_) fun c1 => chk_i hc (ite_i (fun c2 => ?_) fun c2 => ?_)))
  · rw [if_pos (by omega)] at q
    exact q _ _ (XK.same hX)
  · rw [if_pos (by omega)] at q
    exact q _ _ (XK.same hX)
  · rw [if_neg (fun z => z ⟨by omega, by omega⟩)] at q
    have e := hp.1
    refine chk_i (by omega) (ite_i (fun c3 => b40_0 ?_) fun c3 => ?_)
    · rw [if_neg (by omega)] at q
      refine chk_i (by omega) (ite_i (fun _ => chk_i (by omega) ?_) fun z => absurd c3 z)
      have e1 : up (up D 2 (D 1 1) c) 1 1 (up D 2 (D 1 1) c 1 1 + 1) 1 1 = G 28 1 + 1 := by
        simp only [up_eq, upr_s]; rw [ui_s, upr_n (by decide), e]
      rw [e1]
      have dn : ∀ b, b ≠ 1 → b ≠ 2 → up (up D 2 (D 1 1) c) 1 1 (up D 2 (D 1 1) c 1 1 + 1) b = D b := fun b hb h2 => by rw [up_eq, up_eq, upr_n hb, upr_n h2]
      have e2 : up (up D 2 (D 1 1) c) 1 1 (up D 2 (D 1 1) c 1 1 + 1) 2 = ui (D 2) (G 28 1) c := by
        rw [up_eq, up_eq, upr_n (by decide), upr_s, e]
      generalize up (up D 2 (D 1 1) c) 1 1 (up D 2 (D 1 1) c 1 1 + 1) = D' at e1 dn e2 ⊢
      refine q t D' (XK.d (hX.cg (KI.d fun b hb => dn b (by omega) (by omega)) rfl rfl rfl rfl (by rw [dn 0 (by decide) (by decide)]) (dn 3 (by decide) (by decide)) (dn 5 (by decide) (by decide)) ⟨dn 11 (by decide) (by decide), dn 12 (by decide) (by decide), dn 13 (by decide) (by decide), dn 14 (by decide) (by decide)⟩ (fun i h1 h2 h3 => ?_) (fun b h1 h2 h3 h4 h5 => ?_) ⟨?_, ?_, fun i a b => ?_⟩ ?_) fun b h1 h2 => dn b (by omega) (by omega))
      · dsimp only; rw [upr_s, ui_n h1]
      · dsimp only; rw [upr_n (by omega), upr_n (by omega)]
      · dsimp only; rw [upr_s, ui_s]; exact e1
      · dsimp only; rw [upr_s, ui_s]; omega
      · dsimp only at b ⊢
        rw [upr_s, ui_s] at b
        rw [e2, upr_n (by decide), upr_s]
        have := hp.2.2 i a
        unfold ui
        by_cases ci : i = G 28 1
        · rw [if_pos ci, if_pos ci]; omega
        · rw [if_neg ci, if_neg ci]; exact this (by omega)
      · dsimp only
        rw [upr_n (by decide), upr_n (by decide), upr_s, ui_n (by decide)]
        exact hX.2.2.2.2.2.1.d ⟨dn 7 (by decide) (by decide), dn 8 (by decide) (by decide), dn 9 (by decide) (by decide), dn 10 (by decide) (by decide)⟩ hG.2.2.2.1.2 fun _ _ _ => rfl
    · rw [if_pos (by omega)] at q
      exact q _ _ (XK.same hX)
end KJ
