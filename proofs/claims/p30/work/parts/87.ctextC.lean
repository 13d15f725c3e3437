/-! ## the class's text -/
section KO
variable {S : (Nat → Int32) × Nat} {t : qT} {D G : qD} {Q : Int → qT → qD → Prop} {k : Nat}
/-- where the new machine stands: what is left to be seen -/
theorem x71_fin {t' : qT} {D' E : qD} {s : zS} {nf n : Nat} (hn : n = t.2.2.1) (hX : XJ t D G k) (hk : ∀ b, b < n → b ≠ 0 → t'.2.1 b = t.2.1 b) (h1 : ∀ b, b < n → t'.1 b = t.1 b) (hd : ∀ b, b < n → b ≠ 0 → b ≠ 1 → b ≠ 3 → b ≠ 7 → D' b = D b) (hsz : t'.2.2.1 = n + 17 ∧ t'.2.2.2 ≤ t.2.2.2 + 450)
    (d0 : D' 0 7 = G 28 15 + 1) (d1 : D' 1 1 = 0) (d3 : D' 3 1 = D 3 1 ∧ D' 3 2 = 0) (d7 : D' 7 3 = 0) (p5 : t'.2.1 0 5 = n + 10) (p6 : t'.2.1 0 6 = 0) (hO : CO t' (n + 1)) (hR : CR t' D' (n + 1) E) (hM : MO t' (n + 10)) (hp : t'.2.1 (n + 10) 0 = n + 1) (hMR : MR t' D' (n + 10) (E 42)) (hE : TX G E nf) : XK t t' D D' E := by
  obtain ⟨hn34, hP, hC, hc, hH, hS, h35, -⟩ := hX
  have hV := hE.rv
  obtain ⟨-, -, ⟨e14, e27, e31, e15, e1, e35⟩, -⟩ := hE
  refine ⟨⟨n + 1, by omega, ⟨⟨?_, ?_, ?_⟩, ?_⟩, ⟨hO, hR⟩, ?_, ?_, ?_, ?_, ?_⟩, fun b b0 b1 => hd b (by omega) (by omega) (by omega) (by omega) (by omega), by omega, by omega⟩
  · rw [d1, e1]
  · rw [e1]; exact ⟨Int.le_refl _, by decide⟩
  · rw [e1]; exact fun i i0 i1 => absurd i1 (by omega)
  · rw [d0, e15]
  · rw [p5]; exact ⟨hM, hp, hMR, hV⟩
  · rw [e27]
    refine ⟨d3.2, ?_, ⟨Int.le_refl _, by decide⟩, fun i a b => ?_, fun j a b => absurd b (by omega)⟩
    · rw [d3.1]; exact hH.2.1
    · rw [hk 4 (by omega) (by decide)]
      refine (hH.2.2.2.1 i a b).imp id fun z => ?_
      have zi := z.2.1
      rw [h1 _ (by omega)]
      exact ⟨z.1, by omega, z.2.2⟩
  · rw [e31]; exact ⟨d7, fun i a b => absurd b (by omega)⟩
  · rw [e35, e15]; omega
  · exact .inl ⟨p6, by rw [e35, e15]; omega⟩
theorem KP.le {n m : Nat} {t t' : qT} {D D' : qD} (h : KP n t t' D D') (hm : m ≤ n) : KP m t t' D D' := fun b hb => h b (by omega)
theorem XJ.kp {t' : qT} {D' : qD} (h : XJ t D G k) (hG : RVs G) (hk : KP t.2.2.1 t t' D D') (hn : t.2.2.1 ≤ t'.2.2.1) : XJ t' D' G k := by
  have h34 := h.1
  have e : ∀ b, b < 34 → D' b = D b := fun b hb => (hk b (by omega)).2.2
  have p : ∀ b, b < 34 → t'.2.1 b = t.2.1 b := fun b hb => (hk b (by omega)).2.1
  refine h.cg (KI.of hk hn) (by rw [p 0 (by decide)]) (by rw [p 0 (by decide)]) (p 4 (by decide)) (p 6 (by decide)) (by rw [e 0 (by decide)]) (e 3 (by decide)) (e 5 (by decide)) ⟨e 11 (by decide), e 12 (by decide), e 13 (by decide), e 14 (by decide)⟩ (fun _ _ _ _ => rfl) (fun _ _ _ _ _ _ => rfl) (h.2.1.1.of (e 1 (by decide)) (e 2 (by decide))) ?_
  exact h.2.2.2.2.2.1.d ⟨e 7 (by decide), e 8 (by decide), e 9 (by decide), e 10 (by decide)⟩ hG.2.2.2.1.2 fun _ _ _ => rfl
theorem x71_e {t6 v8 t9 : qT} {D7 D8 D9 : qD} {s : zS} {M n : Nat} (hn : t.2.2.1 = n) (hn34 : 34 ≤ n) (hX : XJ t D G k) (good : GOOD G s) (hM : s.1 2 = (M : Int)) (hT : TXT (G 29) (G 28 1) (M + 1) s.2.1 s.2.2.1 s.2.2.2.1 s.2.2.2.2)
    (hO6 : CO t6 (n + 1)) (hL6 : t6.2.1 (n + 1) 1 = n + 1 + 1 ∧ t6.2.1 (n + 1) 2 = n + 1 + 2 ∧ t6.2.1 (n + 1) 3 = n + 1 + 3 ∧ t6.2.1 (n + 1) 4 = n + 1 + 4 ∧ t6.2.1 (n + 1) 5 = n + 1 + 5) (w2 : D7 (n + 1) 0 = ((M + 1 : Nat) : Int)) (w3 : ∀ f : Nat, f < M + 1 → CDN D7 (n + 1) s.2.1 s.2.2.1 s.2.2.2.1 s.2.2.2.2 f)
    (hcb6 : CB t6 (n + 1) (n + 10)) (K9 : KP n t t9 D D9) (K79 : KP (n + 10) t6 t9 D7 D9) (hO9 : CO t9 (n + 1)) (x1 : t9.2.2.1 = n + 17) (x2 : t9.2.2.2 ≤ t.2.2.2 + 450) (hM9 : MO t9 (n + 10)) (p9 : t9.2.1 (n + 10) 0 = n + 1)
    (hmr : ∀ N, N 13 = 0 → N 78 = 0 → (∀ i, 9 ≤ i → i < 110 → N i = 0) → (∀ (f p : Int), 0 ≤ f → f < 3 → 0 ≤ p → p < 3 → N (3 * f + p) = if f < ((M + 1 : Nat) : Int) ∧ p < s.2.2.1 f then s.2.2.2.2 (15 * f + 5 * p) else 0) → MR t9 D9 (n + 10) N)
    (q1 : ∀ t' D' s (nf : Nat), GOOD G s → s.1 2 + 1 = nf → KR D D' → (∀ E, TX G E nf → TXs E s → XK t t' D D' E) → Q nf t' D') :
    wp S 20 0 [some (qs 3)] [] (t9.1, upP t9.2.1 0 5 (n + 10), t9.2.2) D9 (fun _ t8 D8 => (chk ((t8.1 (n + 1)).1 = 0)
        (Q ((up (up (up D8 7 3 0) 1 1 0) 0 7 ((D8 0 7) + 1)) (n + 1) 0) (t8.1, (upP t8.2.1 0 6 0), t8.2.2) (up (up (up D8 7 3 0) 1 1 0) 0 7 ((D8 0 7) + 1))))) := by
  have d07 := hX.2.1.2
  refine b20_0 (chk_i (by show (t9.1 (n + 1)).1 = 0; exact hO9.1.1) ?_)
  generalize hF : up (up (up (up D9 3 2 0) 7 3 0) 1 1 0) 0 7 (up D9 3 2 0 0 7 + 1) = F
  have fn : ∀ b, b ≠ 0 → b ≠ 1 → b ≠ 3 → b ≠ 7 → F b = D9 b := fun b b0 b1 b3 b7 => by rw [← hF]; simp only [up_eq]; rw [upr_n b0, upr_n b1, upr_n b7, upr_n b3]
  have f07 : F 0 7 = D9 0 7 + 1 := by rw [← hF]; simp only [up_eq, upr_s, ui_s]; rfl
  have f11 : F 1 1 = 0 := by rw [← hF]; simp only [up_eq]; rfl
  have f3 : F 3 1 = D9 3 1 ∧ F 3 2 = 0 := by rw [← hF]; simp only [up_eq]; exact ⟨rfl, rfl⟩
  have f73 : F 7 3 = 0 := by rw [← hF]; simp only [up_eq]; rfl
  clear hF
  show Q (F (n + 1) 0) (t9.1, upP (upP t9.2.1 0 5 (n + 10)) 0 6 0, t9.2.2) F
  generalize hW : ((t9.1, upP (upP t9.2.1 0 5 (n + 10)) 0 6 0, t9.2.2) : qT) = W
  have g1 : W.1 = t9.1 := by rw [← hW]
  have g2 : ∀ b, b ≠ 0 → W.2.1 b = t9.2.1 b := fun b hb => by
    rw [← hW]; funext j
    show (if b = 0 ∧ j = 6 then 0 else if b = 0 ∧ j = 5 then n + 10 else t9.2.1 b j) = _
    rw [if_neg (fun z => hb z.1), if_neg (fun z => hb z.1)]
  have g5 : W.2.1 0 5 = n + 10 := by rw [← hW]; rfl
  have g6 : W.2.1 0 6 = 0 := by rw [← hW]; rfl
  have g3 : W.2.2 = t9.2.2 := by rw [← hW]
  clear hW
  have kiT : KI t9 W D9 F := ⟨by rw [g3]; exact Nat.le_refl _, fun b hb => ⟨by rw [g1], g2 b (by have := hb.2; omega), fn b (by have := hb.2; omega) (by have := hb.2; omega) (by have := hb.2; omega) (by have := hb.2; omega)⟩⟩
  rw [fn (n + 1) (by omega) (by omega) (by omega) (by omega), (K79 (n + 1) (by omega)).2.2, w2]
  refine q1 W F s (M + 1) good (by omega) (fun b b0 b1 => by rw [fn b (by omega) (by omega) (by omega) (by omega), (K9 b (by omega)).2.2]) fun E hE hs => ?_
  refine x71_fin (s := s) (n := n) hn.symm hX (fun b hb h0 => by rw [g2 b h0, (K9 b hb).2.1]) (fun b hb => by rw [g1, (K9 b hb).1]) (fun b hb b0 b1 b3 b7 => by rw [fn b b0 b1 b3 b7, (K9 b hb).2.2]) ⟨by rw [g3, x1], by rw [g3]; omega⟩ (by rw [f07, (K9 0 (by omega)).2.2, d07]) f11 ⟨by rw [f3.1, (K9 3 (by omega)).2.2], f3.2⟩ f73 g5 g6 (hO9.ki kiT) ?_ (hM9.ki kiT) (by rw [g2 _ (by omega)]; exact p9) ?_ hE
  · exact ((((CR.txt hL6 w2 hT w3 hE hs).kp hcb6 K79))).ki hO9 kiT
  · obtain ⟨-, -, -, -, -, h9, h42⟩ := hE
    refine (hmr (E 42) (h9 13 (by omega) (by omega)) (h9 78 (by omega) (by omega)) h9 fun f p f0 f1 p0 p1 => ?_).ki hM9 kiT
    rw [h42 f p f0 f1 p0 p1, (hs.1 f f0 f1).2, hs.2.2 (15 * f + 5 * p) (by omega) (by omega)]
theorem x71_m {t6 : qT} {D7 : qD} {s : zS} {M n : Nat} (hn : t.2.2.1 = n) (hn34 : 34 ≤ n) (hX : XJ t D G k) (good : GOOD G s) (hM : s.1 2 = (M : Int)) (hT : TXT (G 29) (G 28 1) (M + 1) s.2.1 s.2.2.1 s.2.2.2.1 s.2.2.2.2) (y1 : t6.2.2.1 = n + 10) (y2 : t6.2.2.2 ≤ t.2.2.2 + 340) (K7 : KP n t t6 D D7)
    (hO6 : CO t6 (n + 1)) (hL6 : t6.2.1 (n + 1) 1 = n + 1 + 1 ∧ t6.2.1 (n + 1) 2 = n + 1 + 2 ∧ t6.2.1 (n + 1) 3 = n + 1 + 3 ∧ t6.2.1 (n + 1) 4 = n + 1 + 4 ∧ t6.2.1 (n + 1) 5 = n + 1 + 5) (w2 : D7 (n + 1) 0 = ((M + 1 : Nat) : Int)) (w3 : ∀ f : Nat, f < M + 1 → CDN D7 (n + 1) s.2.1 s.2.2.1 s.2.2.2.1 s.2.2.2.2 f)
    (q1 : ∀ t' D' s (nf : Nat), GOOD G s → s.1 2 + 1 = nf → KR D D' → (∀ E, TX G E nf → TXs E s → XK t t' D D' E) → Q nf t' D') :
    chk (((nwT t6.1 t6.2.2.1 (3, 0)) t6.2.2.1).1 ≠ 8)
        (wp S 22 0 [some (qr t6.2.2.1), some (qr (n + 1)), none, none] [] ((nwT t6.1 t6.2.2.1 (3, 0)), (nwP t6.2.1 t6.2.2.1), ((t6.2.2.1 + 1), (t6.2.2.2 + 9))) (upr D7 t6.2.2.1 (fun _ => 0)) (fun _ t7 D7 =>
        (wp S 20 0 [some (qs 3)] [] (t7.1, (upP t7.2.1 0 5 t6.2.2.1), t7.2.2) D7 (fun _ t8 D8 =>
        (chk ((t8.1 (n + 1)).1 = 0)
        (Q ((up (up (up D8 7 3 0) 1 1 0) 0 7 ((D8 0 7) + 1)) (n + 1) 0) (t8.1, (upP t8.2.1 0 6 0), t8.2.2) (up (up (up D8 7 3 0) 1 1 0) 0 7 ((D8 0 7) + 1)))))))) := by
  have hgh := gTx.cr (G := G) hL6 w2 hT w3
  refine chk_i (by rw [nwT_s]; decide) ?_
  have k8 := KP.nw (t := t6) (D := D7) (n := t6.2.2.1) (K := (3, 0)) (R := fun _ => 0) (z := (t6.2.2.1 + 1, t6.2.2.2 + 9)) (Nat.le_refl _)
  have hcb6 := hO6.cb
  rw [y1] at k8 hcb6 ⊢
  generalize hv8 : ((nwT t6.1 (n + 10) (3, 0), nwP t6.2.1 (n + 10), (n + 10 + 1, t6.2.2.2 + 9)) : qT) = v8 at k8 ⊢
  generalize upr D7 (n + 10) (fun _ => 0) = D8 at k8 ⊢
  have v8n : v8.2.2.1 = n + 10 + 1 ∧ v8.2.2.2 = t6.2.2.2 + 9 := by rw [← hv8]; exact ⟨rfl, rfl⟩
  have v8T : (v8.1 (n + 10)).1 = 3 := by rw [← hv8]; show (nwT t6.1 (n + 10) (3, 0) (n + 10)).1 = 3; rw [nwT_s]
  clear hv8
  have hO8 := hO6.kp hcb6 k8 (by omega)
  have hcb8 := hcb6.kp k8
  refine c24 (a := n + 10) (l := n + 1) (by omega) v8n.1 v8T (by omega) hO8 hcb8 (hgh.1.kp hcb6 k8) hgh.2 (by rw [(k8 _ (by omega)).2.2, w2]; rfl) fun t9 D9 x1 x2 kp9 hM9 p9 hmr => ?_
  have K9 : KP n t t9 D D9 := K7.trans ((k8.trans kp9).le (by omega))
  have K79 := k8.trans kp9
  have hO9 := hO8.kp hcb8 kp9 (by omega)
  clear v8T k8
  exact x71_e (v8 := v8) (D8 := D8) hn hn34 hX good hM hT hO6 hL6 w2 w3 hcb6 K9 K79 hO9 (by rw [x1]) (by omega) hM9 p9 hmr q1
theorem x71 (hX : XJ t D G k) (hG : RVs G) (h14 : (t.1 1).1 = 4) (q0 : ∀ t' D', XK t t' D D' G → (∀ s, ¬ GOOD G s) → Q (-103) t' D')
    (q1 : ∀ t' D' s (nf : Nat), GOOD G s → s.1 2 + 1 = nf → KR D D' → (∀ E, TX G E nf → TXs E s → XK t t' D D' E) → Q nf t' D') : wp S 66 0 [some (qs 0), none, none] [] t D Q := by
  have hn34 := hX.1
  have hp := hX.2.1.1
  have d07 := hX.2.1.2
  have hl := hG.2.2.2.2.1
  have hr := zRun_ren (pg := G 29) (len := G 28 1) hG.2.2.2.2.2.2.2 100 0 (z0 G) (Int.le_refl _) (by omega) (by omega) (zV_0 G) (z0_ren G)
  generalize hn : t.2.2.1 = n at hn34
  refine b71_0 (chk_i (by rw [nwT_s]; decide) ?_)
  have k0 := KP.nw (t := t) (D := D) (n := t.2.2.1) (K := (5, 0)) (R := fun _ => 0) (z := (t.2.2.1 + 1, t.2.2.2 + 7)) (Nat.le_refl _)
  rw [hn] at k0 ⊢
  generalize hu : ((nwT t.1 n (5, 0), nwP t.2.1 n, (n + 1, t.2.2.2 + 7)) : qT) = u at k0 ⊢
  generalize upr D n (fun _ => 0) = D0 at k0 ⊢
  have un : u.2.2.1 = n + 1 ∧ u.2.2.2 = t.2.2.2 + 7 := by rw [← hu]; exact ⟨rfl, rfl⟩
  have uT : (u.1 n).1 = 5 := by rw [← hu]; show (nwT t.1 n (5, 0) n).1 = 5; rw [nwT_s]
  clear hu
  refine c43 (G := G) uT fun D1 h1 h2 => chk_i uT (c44n (G := G) uT (by omega) (by omega) ?_ h2 fun D2 h3 h4 => ?_)
  · exact hp.of ((h1 1 (by omega)).trans (k0 1 (by omega)).2.2) ((h1 2 (by omega)).trans (k0 2 (by omega)).2.2)
  have kp2 : KP n t u D D2 := k0.trans (KP.d fun b hb => by rw [h3 b (by omega), h1 b (by omega)])
  have e11 : D2 1 1 = G 28 1 := by rw [(kp2 1 (by omega)).2.2]; exact hp.1
  have bad : XK t u D D2 G := ⟨⟨k, hX.kp hG (by rw [hn]; exact kp2) (by omega)⟩, fun b b0 b1 => (kp2 b (by omega)).2.2, by omega, by omega⟩
  have hvr : qR (vRead G).1 := by
    have := zRun_lo (G 29) (G 28 1) 100 0 (z0 G)
    unfold vRead
    exact ⟨by omega, by omega⟩
  clear k0 h1 h2
  rw [e11]
  refine chk_i hvr (chk_i (by omega) (ite_i (fun c => q0 _ _ bad fun s hs => ?_) fun c => chk_i uT ?_))
  · have := hs.2.1; omega
  obtain ⟨s, hs2, hs1, hren, hzv⟩ := hr c
  have hs2' : (vRead G).2 = some s := hs2
  obtain ⟨z1, z2⟩ := h4 s hs2'
  refine c45 uT z1 z2 (tf1 (fun cc => ?_) fun cc => q0 _ _ bad fun s' hs => ?_)
  · obtain ⟨M, hM, hT⟩ := hren.txt hzv cc.1 cc.2
    have good : GOOD G s := ⟨hs2', hs1, cc.1, cc.2⟩
    clear hr h3 h4 z1 z2 hren c hvr
    refine chk_i (by rw [nwT_s]; decide) ?_
    have k1 := KP.nw (t := u) (D := D2) (n := u.2.2.1) (K := (0, 0)) (R := fun _ => 0) (z := (u.2.2.1 + 1, u.2.2.2 + 6)) (Nat.le_refl _)
    rw [un.1] at k1 ⊢
    generalize hv : ((nwT u.1 (n + 1) (0, 0), nwP u.2.1 (n + 1), (n + 1 + 1, u.2.2.2 + 6)) : qT) = v at k1 ⊢
    generalize upr D2 (n + 1) (fun _ => 0) = D3 at k1 ⊢
    have vn : v.2.2.1 = n + 1 + 1 ∧ v.2.2.2 = u.2.2.2 + 6 := by rw [← hv]; exact ⟨rfl, rfl⟩
    have vT : (v.1 (n + 1)).1 = 0 := by rw [← hv]; show (nwT u.1 (n + 1) (0, 0) (n + 1)).1 = 0; rw [nwT_s]
    clear hv
    refine c0 (a := n + 1) (by omega) vn.1 vT fun t4 D4 z1 z2 kp4 hO4 e0 e3 e5 hL => ?_
    have K4 : KP n t t4 D D4 := kp2.trans ((k1.le (by omega)).trans (kp4.le (by omega)))
    have z1 : t4.2.2.1 = n + 7 := z1
    rw [hL.2.2.1] at e3
    rw [hL.2.2.2.2] at e5
    clear k1 kp4 vT
    refine chk_i (by rw [nwT_s]; decide) ?_
    have k5 := KP.nw (t := t4) (D := D4) (n := t4.2.2.1) (K := (6, 0)) (R := fun _ => 0) (z := (t4.2.2.1 + 1, t4.2.2.2 + 8)) (Nat.le_refl _)
    have hcb := hO4.cb
    rw [z1] at k5 hcb ⊢
    generalize hv5 : ((nwT t4.1 (n + 7) (6, 0), nwP t4.2.1 (n + 7), (n + 7 + 1, t4.2.2.2 + 8)) : qT) = v5 at k5 ⊢
    generalize upr D4 (n + 7) (fun _ => 0) = D5 at k5 ⊢
    have v5n : v5.2.2.1 = n + 7 + 1 ∧ v5.2.2.2 = t4.2.2.2 + 8 := by rw [← hv5]; exact ⟨rfl, rfl⟩
    have v5T : (v5.1 (n + 7)).1 = 6 := by rw [← hv5]; show (nwT t4.1 (n + 7) (6, 0) (n + 7)).1 = 6; rw [nwT_s]
    clear hv5
    have hL5 : v5.2.1 (n + 1) 1 = n + 1 + 1 ∧ v5.2.1 (n + 1) 2 = n + 1 + 2 ∧ v5.2.1 (n + 1) 3 = n + 1 + 3 ∧ v5.2.1 (n + 1) 4 = n + 1 + 4 ∧ v5.2.1 (n + 1) 5 = n + 1 + 5 := by rw [(k5 (n + 1) (by omega)).2.1]; exact hL
    refine c53 (a := n + 7) (k := n + 1) (by omega) v5n.1 v5T (hO4.kp hcb k5 (by omega)) (hcb.kp k5) (by omega) (by omega) hL5 fun t6 D6 y1 y2 kp6 hSO d5 => ?_
    have K46 : KP (n + 7) t4 t6 D4 D6 := k5.trans kp6
    have K6 : KP n t t6 D D6 := K4.trans (K46.le (by omega))
    have y1 : t6.2.2.1 = n + 10 := y1
    clear k5 kp6 v5T hL5
    refine chk_i hSO.1.1 (c54 (G := G) hSO (by rw [(K6 1 (by omega)).1]; exact h14) (hp.of (K6 1 (by omega)).2.2 (K6 2 (by omega)).2.2) hT d5 (by rw [(K46 _ (by omega)).2.2]; exact e0) (fun i => by rw [(K46 _ (by omega)).2.2]; exact e3 i) (fun i => by rw [(K46 _ (by omega)).2.2]; exact e5 i) fun D7 w1 w2 w3 => ?_)
    have K7 : KP n t t6 D D7 := K6.trans (KP.d fun b hb => w1 b (by omega))
    have hO6 := hSO.2.2.1
    have hL6 := hSO.2.2.2.1
    clear K6 K46 K4 d5 e0 e3 e5 hO4 hL hSO kp2
    exact x71_m hn hn34 hX good hM hT y1 (by omega) K7 hO6 hL6 w2 w3 q1
  · obtain ⟨g1, -, g3, g4⟩ := hs
    rw [hs2'] at g1
    cases g1
    exact cc ⟨g3, g4⟩
end KO
