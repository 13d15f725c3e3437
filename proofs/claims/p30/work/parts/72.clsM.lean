/-! ## the class: drawn, on a machine of its own -/
def FD (a : Nat) (D D' : qD) : Prop := ∀ b, ¬ (a ≤ b ∧ b ≤ a + 7) → D' b = D b
theorem FD.trans {a : Nat} {D E F : qD} (h : FD a D E) (k : FD a E F) : FD a D F := fun b hb => (k b hb).trans (h b hb)
theorem FR.fd {a : Nat} {D E : qD} (h : FR a D E) : FD a D E := fun b hb => h b (by omega)
theorem FD.up {a : Nat} {D : qD} {v : Int} : FD a D (up D (a + 7) 0 v) := fun b hb => by rw [up_eq]; exact upr_n (by omega)
theorem CR.lt {t : qT} {D D' G : qD} {k a : Nat} (h : CR t D k G) (hb : CB t k a) (hf : ∀ b, b < a → D' b = D b) : CR t D' k G := by
  obtain ⟨b0, b1, b2, b3, b4, b5⟩ := hb
  unfold CR
  rw [hf k b0, hf _ b1, hf _ b2, hf _ b3, hf _ b4, hf _ b5]
  exact h
theorem MR.out {t : qT} {D D' : qD} {a : Nat} {N : Int → Int} (h : MR t D a N) (hL : ML t a) (hf : ∀ b, a ≤ b → b ≤ a + 6 → D' b = D b) : MR t D' a N := by
  obtain ⟨l1, l2, l3, l4, l5, l6⟩ := hL
  unfold MR
  rw [hf a (by omega) (by omega), hf (t.2.1 a 1) (by omega) (by omega), hf (t.2.1 a 2) (by omega) (by omega), hf (t.2.1 a 3) (by omega) (by omega), hf (t.2.1 a 4) (by omega) (by omega), hf (t.2.1 a 5) (by omega) (by omega), hf (t.2.1 a 6) (by omega) (by omega)]
  exact h
/-- what the trial's loop keeps -/
def DW (t : qT) (D G : qD) (a : Nat) (N : Int → Int) (s : Int) : Prop := MR t D a N ∧ CR t D (t.2.1 a 0) G ∧ D (a + 7) 0 = s
theorem DW.s {t : qT} {D G : qD} {a : Nat} {N : Int → Int} {s v : Int} (h : DW t D G a N s) (hL : ML t a) (hB : CB t (t.2.1 a 0) a) : DW t (up D (a + 7) 0 v) G a N v :=
  ⟨h.1.out hL fun b h1 h2 => by rw [up_eq]; exact upr_n (by omega), h.2.1.lt hB fun b h1 => by rw [up_eq]; exact upr_n (by omega), by rw [up_eq, upr_s, ui_s]⟩
theorem DW.m {t : qT} {D D' G : qD} {a : Nat} {N M : Int → Int} {s : Int} (h : DW t D G a N s) (hB : CB t (t.2.1 a 0) a) (hF : FR a D D') (hM : MR t D' a M) : DW t D' G a M s :=
  ⟨hM, h.2.1.fr hB hF, by rw [hF _ (by omega)]; exact h.2.2⟩
section KM
variable {S : (Nat → Int32) × Nat} {t : qT} {D G : qD} {Q : Int → qT → qD → Prop} {k a : Nat} {N : Int → Int}
theorem c16 {d : Nat} {s b : Int} (hT : (t.1 d).1 = 1) (hs : D d 0 = s) (h0 : 0 ≤ s ∧ s < 2147483648) (hb : 0 < b ∧ b < 2147483648) (q : Q (dV (dS s) b) t (up D d 0 (dS s))) : wp S 16 0 [some (qr d), some (qi b)] [] t D Q := by
  have h := dS_r s
  refine b16_0 ?_
  rw [hs]
  have e : up D d 0 ((1103515245 * s + 12345) % 2147483648) d 0 = dS s := by rw [up_eq, upr_s, ui_s]; rfl
  rw [e]
  refine chk_i hT (chk_i (by omega) (chk_i hT (chk_i (by omega) (ite_i (fun c => absurd c (by omega)) fun _ => chk_i hT (chk_i (by omega) (chk_i (by omega) (chk_i (by omega) (chk_i (by omega) q)))))))) 
theorem c18 {s : Int} (hO : MO t a) (hL : ML t a) (hB : CB t (t.2.1 a 0) a) (hC : CVd G) (hT : (t.1 (a + 7)).1 = 1) (hV : RVd (G 28 14) N) (hW : DW t D G a N s) (h0 : 0 ≤ s ∧ s < 2147483648)
    (q : ∀ D', DW t D' G a (dThr G N (dS s) (dV (dS s) 5)).1 (dThr G N (dS s) (dV (dS s) 5)).2.1 → FD a D D' → Q (dThr G N (dS s) (dV (dS s) 5)).2.2 t D') : wp S 18 0 [some (qr (a + 7)), some (qr a), none, none] [] t D Q := by
  have h1 := dS_r s
  have hty := dV_r (s := dS s) (b := 5) (by omega)
  have h13 := hV.1
  have hr := sCat_r (G 38) (G 40) N (dV (dS s) 5)
  unfold dThr at q
  refine b18_0 (chk_i hT (c16 hT hW.2.2 h0 (by decide) (chk_i hO.1.1 ?_)))
  have hW1 := hW.s (v := dS s) hL hB
  refine c34 hO hW1.1 hW1.2.1 hC hV (by omega) ?_
  unfold sCat3
  by_cases c : (sCat (G 38) (G 40) N (dV (dS s) 5)).1 = -1
  · rw [if_pos c] at q ⊢
    refine chk_i (by omega) ?_
    rw [if_pos rfl]
    exact q _ hW1 FD.up
  · rw [if_neg c] at q ⊢
    refine chk_i (by omega) ?_
    rw [if_neg (by omega)]
    refine chk_i hO.1.1 (c37 hO hL hB hC (by omega) hV (by omega) (by omega) hW1.2.1 hW1.1 fun D' hM' hF => ?_)
    exact q D' (hW1.m hB hF hM') (FD.up.trans hF.fd)
theorem c17 {s : Int} (hO : MO t a) (hL : ML t a) (hB : CB t (t.2.1 a 0) a) (hC : CVd G) (hnf : 0 < G 28 14) (hT : (t.1 (a + 7)).1 = 1) (hV : RVd (G 28 14) N) (hW : DW t D G a N s) (h0 : 0 ≤ s ∧ s < 2147483648)
    (q : ∀ D', DW t D' G a (dOne G N s).1 (dOne G N s).2.1 → FD a D D' → Q (dOne G N s).2.2 t D') : wp S 17 0 [some (qr (a + 7)), some (qr a), none] [] t D Q := by
  have h1 := dS_r s
  have h2 := dS_r (dS s)
  have h13 := hV.1
  have hnf3 := hC.1
  obtain ⟨o0, oc, o1, o2, -⟩ := id hO
  have hx := dV_r (s := dS s) (b := 4) (by omega)
  have hW1 := hW.s (v := dS s) hL hB
  unfold dOne at q
  refine b17_0 (chk_i hT (c16 hT hW.2.2 h0 (by decide) (chk_i (by omega) (ite_i (fun c => ?_) fun c => ite_i (fun c1 => ?_) fun c1 => ite_i (fun c2 => ?_) fun c2 => ?_))))
  · rw [if_pos c] at q
    refine chk_i o0.1 (chk_i oc.1.1 (chk_i hT ?_))
    rw [hW1.2.1.1]
    refine c16 hT hW1.2.2 h1 (by omega) (chk_i o0.1 ?_)
    have hW2 := hW1.s (v := dS (dS s)) hL hB
    refine c28 hO hL hB hC hW2.2.1 hW2.1 (by omega) (dV_r hnf) fun D' hM' hF => ?_
    exact q D' (hW2.m hB hF hM') (FD.up.trans (FD.up.trans hF.fd))
  · rw [if_neg c, if_pos c1] at q
    refine chk_i o0.1 ?_
    have e7 := hW1.1.2.2.1
    by_cases c3 : 0 < N 13
    · have ha := sAt_r hV (Int.le_refl 0) c3
      refine c27 hO hW1.1 (by omega) (chk_i (by omega) (ite_i (fun c4 => chk_i o0.1 (c29 hO hL hB hC hW1.2.1 hW1.1 hV (by omega) fun D' hM' hF => ?_)) fun c4 => ?_))
      · rw [if_pos ⟨c3, c4⟩] at q
        exact q D' (hW1.m hB hF hM') (FD.up.trans hF.fd)
      · rw [if_neg (fun z => c4 z.2)] at q
        exact q _ hW1 FD.up
    · rw [if_neg (fun z => c3 z.1)] at q
      refine b27_0 (chk_i o0.1 (chk_i (by omega) (ite_i (fun z => absurd z (by omega)) fun _ => chk_i (by omega) (ite_i (fun _ => chk_i o0.1 (b29_0 (chk_i o0.1 (chk_i (by omega) (ite_i (fun z => ?_) fun z => ?_))))) fun z => absurd z (by omega)))))
      · first
          | exact absurd z (by omega)
          | exact q _ hW1 FD.up
      · first
          | exact absurd z (by omega)
          | exact q _ hW1 FD.up
  · rw [if_neg c, if_neg c1, if_pos c2] at q
    have hr := dV_r (s := dS (dS s)) (b := 4) (by omega)
    have hW2 := hW1.s (v := dS (dS s)) hL hB
    have hW3 := hW2.s (v := dS (dS (dS s))) hL hB
    refine chk_i hT (c16 hT hW1.2.2 h1 (by decide) (chk_i o0.1 (chk_i hT (c16 hT hW2.2.2 h2 (by decide) (chk_i o2.1 (chk_i (by omega) ?_))))))
    have hF : ∀ E : qD, ∀ v, FR a E (up E (t.2.1 a 2) (dV (dS (dS s)) 4) v) := fun E v => FR.up (by rw [hL.2.1]; omega)
    exact q _ (hW3.m hB (hF _ _) (hW3.1.w_rg hL hr)) (FD.up.trans (FD.up.trans (FD.up.trans (hF _ _).fd)))
  · rw [if_neg c, if_neg c1, if_neg c2] at q
    refine chk_i hT (c18 hO hL hB hC hT hV hW1 h1 fun D' hW' hF => chk_i ?_ ?_)
    · unfold dThr; split
      · exact .inl rfl
      · exact .inr rfl
    · exact q D' hW' (FD.up.trans hF)
theorem c90_65 {n w s0 : Int} (hO : MO t a) (hL : ML t a) (hB : CB t (t.2.1 a 0) a) (hC : CVd G) (hnf : 0 < G 28 14) (hT : (t.1 (a + 7)).1 = 1) (hn : qR n) (hw : 0 ≤ w ∧ w ≤ 2) :
    ∀ (m : Nat) (j o s : Int) (N : Int → Int) (D : qD), j + m = n → 0 ≤ j → (0 ≤ o ∧ o ≤ j) → RVd (G 28 14) N → DW t D G a N s → (0 ≤ s ∧ s < 2147483648) →
    (∀ D', FD a D D' → Q (if w = 0 then (dMany G m N s o).2.2 else if w = 1 then (dMany G m N s o).1 13 else (dMany G m N s o).2.1) t D') →
    wp S 82 65 [some (qs 0), some (qi n), some (qi s0), some (qi w), some (qr a), some (qr (a + 7)), some (qi o), some (qi j)] [] t D Q := by
  intro m
  induction m with
  | zero =>
    intro j o s N D hj h0 ho hV hW hs q
    have hq := q D fun _ _ => rfl
    refine b90_65 (chk_i (by omega) (chk_i hn (ite_i (fun c => absurd c (by omega)) fun _ => chk_i (by omega) (ite_i (fun c => ?_) fun c => chk_i (by omega) (ite_i (fun c1 => chk_i hO.1.1 ?_) fun c1 => chk_i hT ?_)))))
    · rwa [if_pos c] at hq
    · rw [if_neg c, if_pos c1] at hq
      rw [hW.1.2.2.1]; exact hq
    · rw [if_neg c, if_neg c1] at hq
      rw [hW.2.2]; exact hq
  | succ m ih =>
    intro j o s N D hj h0 ho hV hW hs q
    have hr := dOne_r hC hnf hV (s := s)
    refine b90_65 (chk_i (by omega) (chk_i hn (ite_i (fun _ => chk_i hT (c17 hO hL hB hC hnf hT hV hW hs fun D' hW' hF => chk_i (by omega) (ite_i (fun c => ?_) fun c => ?_))) fun c => absurd (by omega) c)))
    · refine ih (j + 1) o _ _ D' (by omega) (by omega) (by omega) hr.1 hW' hr.2.1 fun D'' h2 => ?_
      have := q D'' (hF.trans h2)
      unfold dMany at this
      rw [c, Int.add_zero] at this
      exact this
    · refine ih (j + 1) (o + 1) _ _ D' (by omega) (by omega) (by omega) hr.1 hW' hr.2.1 fun D'' h2 => ?_
      have := q D'' (hF.trans h2)
      unfold dMany at this
      rw [show (dOne G N s).2.2 = 1 by omega] at this
      exact this
theorem x90 {n s w : Int} (hX : XJ t D G k) (hG : RVs G) (hn : qR n) (hs : qR s) (hw : qR w) (q : ∀ t' D', XK t t' D D' G → Q (vDrawn G n s w) t' D') : wp S 82 0 [some (qs 0), some (qi n), some (qi s), some (qi w), none, none, none, none] [] t D Q := by
  have hq := hX.q
  have hX' := hX
  obtain ⟨hn49, hP, hC, hc, hH, hS, h35, hE⟩ := hX
  have h1 := hG.1.1
  unfold vDrawn at q
  refine b90_0 (chk_i hn (ite_i (fun c => ?_) fun c => chk_i hn (ite_i (fun c1 => ?_) fun c1 => chk_i hs (ite_i (fun c2 => ?_) fun c2 => c102 hw (by omega) (tf1 (fun c3 => c98 hq.1 hG.1 (tf2 (fun c4 => ?_) fun c4 => chk_i (by rw [nwT_s]; decide) ?_)) fun c3 => ?_)))))
  · rw [if_pos (by omega)] at q; exact q _ _ (XK.same hX')
  · rw [if_pos (by omega)] at q; exact q _ _ (XK.same hX')
  · rw [if_neg (fun z => z ⟨by omega, by omega⟩), if_pos c2] at q; exact q _ _ (XK.same hX')
  · rw [if_neg (fun z => z ⟨by omega, by omega⟩), if_neg c2, if_neg (fun z => z ⟨by omega, by omega⟩), if_pos c4] at q; exact q _ _ (XK.same hX')
  · rw [if_neg (fun z => z ⟨by omega, by omega⟩), if_neg c2, if_neg (fun z => z ⟨by omega, by omega⟩), if_neg c4] at q
    have k1 : KP t.2.2.1 t (nwT t.1 t.2.2.1 (3, 0), nwP t.2.1 t.2.2.1, (t.2.2.1 + 1, t.2.2.2 + 9)) D (upr D t.2.2.1 (fun _ => 0)) := KP.nw (Nat.le_refl _)
    have u1a : ((nwT t.1 t.2.2.1 (3, 0)) t.2.2.1).1 = 3 := by rw [nwT_s]
    generalize hu : ((nwT t.1 t.2.2.1 (3, 0), nwP t.2.1 t.2.2.1, (t.2.2.1 + 1, t.2.2.2 + 9)) : qT) = u at k1
    have un : u.2.2.1 = t.2.2.1 + 1 ∧ u.2.2.2 = t.2.2.2 + 9 := by rw [← hu]; exact ⟨rfl, rfl⟩
    have e1 : nwT t.1 t.2.2.1 (3, 0) = u.1 := by rw [← hu]
    have e2 : nwP t.2.1 t.2.2.1 = u.2.1 := by rw [← hu]
    rw [e1] at u1a
    rw [e2, (k1 0 (by omega)).2.1]
    generalize hl : t.2.1 0 5 = l at hc
    have hlt := hc.1.1.2.1
    have ki1 := KI.of k1 (by omega)
    obtain ⟨o0, oc, o1, o2, o3, o4, o5, o6⟩ := id hc.1
    have pl := (k1 l hlt).2.1
    refine c25 (N := G 42) hn49 un.1 u1a (hc.1.ki ki1) (by omega) (hc.2.2.1.ki hc.1 ki1) ?_ ?_ ?_
    · rw [pl]
      exact ⟨o1.2.2.1, o2.2.2.1, o3.2.2.1, o4.2.2.1, o5.2.2.1, o6.2.2.1⟩
    · rw [pl, hc.2.1]
      have := hC.1.cb
      unfold CB at this ⊢
      rw [(k1 k hC.1.1.2.1).2.1]; exact this
    · intro t2 D2 n1 n2 n3 n4 n5 n6 n7 n8 n9
      rw [pl, hc.2.1] at n7
      rw [n7] at n9
      have k2 : KP t.2.2.1 t t2 D D2 := k1.trans n3
      rw [n1]
      refine chk_i (by rw [nwT_s]; decide) (b15_0 (chk_i ⟨by show (nwT t2.1 (t.2.2.1 + 7) (1, 0) (t.2.2.1 + 7)).1 ≠ 8; rw [nwT_s]; decide, by decide⟩ (chk_i hs (chk_i (by show (nwT t2.1 (t.2.2.1 + 7) (1, 0) (t.2.2.1 + 7)).1 = 1; rw [nwT_s]) ?_))))
      have k3 : KP t2.2.2.1 t2 (nwT t2.1 t2.2.2.1 (1, 0), nwP t2.2.1 t2.2.2.1, (t2.2.2.1 + 1, t2.2.2.2 + 1)) D2 (up (upr D2 t2.2.2.1 (fun _ => 0)) t2.2.2.1 0 s) := (KP.nw (Nat.le_refl _)).trans (KP.d fun b hb => by rw [up_eq]; exact upr_n (by omega))
      have uT : ((nwT t2.1 t2.2.2.1 (1, 0)) t2.2.2.1).1 = 1 := by rw [nwT_s]
      have uD : up (upr D2 t2.2.2.1 (fun _ => 0)) t2.2.2.1 0 s t2.2.2.1 0 = s := by rw [up_eq, upr_s, ui_s]
      rw [n1] at k3 uT uD
      generalize hv : ((nwT t2.1 (t.2.2.1 + 7) (1, 0), nwP t2.2.1 (t.2.2.1 + 7), (t.2.2.1 + 7 + 1, t2.2.2.2 + 1)) : qT) = v at k3
      have vn : v.2.2.1 = t.2.2.1 + 8 ∧ v.2.2.2 = t2.2.2.2 + 1 := by rw [← hv]; exact ⟨rfl, rfl⟩
      have vT : (v.1 (t.2.2.1 + 7)).1 = 1 := by rw [← hv]; exact uT
      generalize up (upr D2 (t.2.2.1 + 7) (fun _ => 0)) (t.2.2.1 + 7) 0 s = D3 at k3 uD ⊢
      have ki3 : KI t2 v D2 D3 := ⟨by omega, fun b hb => k3 b (by have := hb.1; omega)⟩
      have va : v.2.1 t.2.2.1 = t2.2.1 t.2.2.1 := (k3 _ (by omega)).2.1
      have k4 : KP t.2.2.1 t v D D3 := k2.trans fun b hb => k3 b (by omega)
      have hvO := n5.ki ki3
      have hvL : ML v t.2.2.1 := by unfold ML; rw [va]; exact n6
      have hv0 : v.2.1 t.2.2.1 0 = k := by rw [va]; exact n7
      have hCO : CO t2 k := by rw [← n7]; exact n5.2.1
      have hvB : CB v (v.2.1 t.2.2.1 0) t.2.2.1 := by
        rw [hv0]; unfold CB; rw [(k3 k (by have := n9.1; omega)).2.1]; exact n9
      refine c90_65 (G := G) hvO hvL hvB hG.1 (by omega) vT hn (by omega) n.toNat 0 0 s (G 42) D3 (by omega) (Int.le_refl _) ⟨Int.le_refl _, Int.le_refl _⟩ hG.2.1 ⟨n8.ki n5 ki3, by rw [hv0]; exact hC.2.ki hC.1 (KI.of k4 (by omega)), uD⟩ ⟨by omega, by omega⟩ fun D4 hF => ?_
      have k5 : KP t.2.2.1 t v D D4 := k4.trans (KP.d fun b hb => hF b (by omega))
      have d5 : ∀ b, b < t.2.2.1 → D4 b = D b := fun b hb => (k5 b hb).2.2
      refine q v D4 ⟨⟨k, hX'.cg (KI.of k5 (by omega)) (by rw [(k5 0 (by omega)).2.1]) (by rw [(k5 0 (by omega)).2.1]) (k5 4 (by omega)).2.1 (k5 6 (by omega)).2.1 (by rw [d5 0 (by omega)]) (d5 3 (by omega)) (d5 5 (by omega)) ⟨d5 11 (by omega), d5 12 (by omega), d5 13 (by omega), d5 14 (by omega)⟩ (fun _ _ _ _ => rfl) (fun _ _ _ _ _ _ => rfl) ?_ ?_⟩, fun b x y => d5 b (by omega), by omega, by omega⟩
      · unfold PGr; rw [d5 1 (by omega), d5 2 (by omega)]; exact hP.1
      · exact hS.d ⟨d5 7 (by omega), d5 8 (by omega), d5 9 (by omega), d5 10 (by omega)⟩ hG.2.2.2.1.2 fun _ _ _ => rfl
  · rw [if_neg (fun z => z ⟨by omega, by omega⟩), if_neg c2, if_pos (by omega)] at q; exact q _ _ (XK.same hX')
end KM
