/-! blocks of the filling of an array; new objects of the class -/
set_option maxRecDepth 100000 in
theorem b187_0 {S : (Nat → Int32) × Nat} {t : qT} {D : qD} {Q : Int → qT → qD → Prop} {l1 : Int} {a : Nat} (h :
chk ((t.1 a).1 = 10)
(wp S 95 5 [some (qr a), some (qi l1), some (qi 0), some (qi (t.1 a).2)] [] t D Q)) : wp S 95 0 [some (qr a), some (qi l1), none, none] [] t D Q := vc_ok (cuts := [5]) 600 0 _ _ _ _ h
set_option maxRecDepth 100000 in
theorem b187_5 {S : (Nat → Int32) × Nat} {t : qT} {D : qD} {Q : Int → qT → qD → Prop} {l1 l2 l3 : Int} {a : Nat} (h :
chk (qR l2)
(chk (qR l3)
  (if l2 < l3 then
    (chk ((t.1 a).1 = 10)
      (chk (0 ≤ l2 ∧ l2 < (t.1 a).2)
        (wp S 95 5 [some (qr a), some (qi l1), some (qi (l2 + 1)), some (qi l3)] [] t (up D a l2 l1) Q)))
    else
    (Q 0 t D)))) : wp S 95 5 [some (qr a), some (qi l1), some (qi l2), some (qi l3)] [] t D Q := vc_ok (cuts := [5]) 600 5 _ _ _ _ h
section KN
variable {S : (Nat → Int32) × Nat} {t : qT} {D G : qD} {Q : Int → qT → qD → Prop} {k a l : Nat} {N : Int → Int}
theorem c187 {v n : Int} (hT : (t.1 a).1 = 10 ∧ (t.1 a).2 = n) (hn : 0 ≤ n ∧ n < 1000) (hv : qR v) (q : ∀ D', (∀ b, b ≠ a → D' b = D b) → (∀ i, 0 ≤ i → i < n → D' a i = v) → Q 0 t D') : wp S 95 0 [some (qr a), some (qi v), none, none] [] t D Q := by
  have lp : ∀ (m : Nat) (j : Int) (E : qD), j + m = n → 0 ≤ j → (∀ b, b ≠ a → E b = D b) → (∀ i, 0 ≤ i → i < j → E a i = v) → wp S 95 5 [some (qr a), some (qi v), some (qi j), some (qi n)] [] t E Q := by
    intro m
    induction m with
    | zero =>
      intro j E hj h0 hE h
      exact b187_5 (chk_i (by omega) (chk_i (by omega) (ite_i (fun c => absurd c (by omega)) fun _ => q E hE fun i x y => h i x (by omega))))
    | succ m ih =>
      intro j E hj h0 hE h
      refine b187_5 (chk_i (by omega) (chk_i (by omega) (ite_i (fun c => chk_i hT.1 (chk_i (by rw [hT.2]; omega) (ih (j + 1) _ (by omega) (by omega) (fun b hb => ?_) fun i x y => ?_))) fun c => absurd c (by omega))))
      · rw [up_eq, upr_n hb]; exact hE b hb
      · rw [up_eq, upr_s]
        by_cases c1 : i = j
        · rw [c1, ui_s]
        · rw [ui_n c1]; exact h i x (by omega)
  refine b187_0 (chk_i hT.1 ?_)
  rw [hT.2]
  exact lp n.toNat 0 D (by omega) (Int.le_refl _) (fun _ _ => rfl) fun i x y => absurd y (by omega)
theorem AC.sa {t0 t : qT} {D0 D : qD} {a : Nat} {sh : Int → Nat × Int} {rw : Int → Int → Int} {j : Int} {s : Nat} (h : AC t0 D0 a sh rw j s t D) (K : Nat × Int) : ((nwT t.1 t.2.2.1 K) a) = t0.1 a := by
  obtain ⟨⟨h0, h1, h2⟩, h3, h4⟩ := h
  show (if a = t.2.2.1 then K else t.1 a) = _
  rw [if_neg (by omega), h3 a (Nat.le_refl _)]
/-- a new functions' object -/
def csh (i : Int) : Nat × Int := if i = 1 then (10, 180) else if i = 2 then (10, 72) else if i = 3 then (10, 3) else if i = 4 then (10, 45) else (10, 3)
theorem c0 (ha : 34 ≤ a) (hn : t.2.2.1 = a + 1) (hT : (t.1 a).1 = 0)
    (q : ∀ t' D', t'.2.2.1 = a + 6 → t'.2.2.2 ≤ t.2.2.2 + 303 → KP a t t' D D' → CO t' a → D' a 0 = 0 → (∀ i, D' (t'.2.1 a 3) i = 0) → (∀ i, D' (t'.2.1 a 5) i = 0) → (t'.2.1 a 1 = a + 1 ∧ t'.2.1 a 2 = a + 2 ∧ t'.2.1 a 3 = a + 3 ∧ t'.2.1 a 4 = a + 4 ∧ t'.2.1 a 5 = a + 5) → Q 0 t' D') :
    wp S 0 0 [some (qr a)] [] t D Q := by
  have hfr := fun b : Nat => qsP_fresh ha b
  refine b0_0 (chk_i ⟨by omega, by decide⟩ (chk_i hT ?_))
  generalize hD0 : up D a 0 0 = D0
  have e0 : D0 a 0 = 0 := by rw [← hD0, up_eq, upr_s, ui_s]
  have en : ∀ b, b ≠ a → D0 b = D b := fun b hb => by rw [← hD0, up_eq, upr_n hb]
  have A0 := AC.zero (t0 := t) (D0 := D0) (sh := csh) (rw := fun _ _ => 0) hn
  have s5 : ∀ u E, AC t D0 a csh (fun _ _ => 0) 5 (t.2.2.2 + 303) u E → Q 0 u E := fun u E A => by
    obtain ⟨⟨h0, h1, h2⟩, h3, h4, h5, h6, h7⟩ := A
    have p1 := h6 1 (by omega) (by omega)
    have p2 := h6 2 (by omega) (by omega)
    have p3 := h6 3 (by omega) (by omega)
    have p4 := h6 4 (by omega) (by omega)
    have p5 := h6 5 (by omega) (by omega)
    have i1 : (1 : Int).toNat = 1 := rfl
    have i2 : (2 : Int).toNat = 2 := rfl
    have i3 : (3 : Int).toNat = 3 := rfl
    have i4 : (4 : Int).toNat = 4 := rfl
    have i5 : (5 : Int).toNat = 5 := rfl
    rw [i1] at p1; rw [i2] at p2; rw [i3] at p3; rw [i4] at p4; rw [i5] at p5
    rw [show csh 1 = (10, 180) from rfl] at p1
    rw [show csh 2 = (10, 72) from rfl] at p2
    rw [show csh 3 = (10, 3) from rfl] at p3
    rw [show csh 4 = (10, 45) from rfl] at p4
    rw [show csh 5 = (10, 3) from rfl] at p5
    have h1 : u.2.2.1 = a + 6 := h1
    refine q _ _ h1 h2 (fun b hb => ⟨h3 b (by omega), h4 b hb, by rw [h5 b (by omega), en b (by omega)]⟩) ?_ (by rw [h5 a (Nat.le_refl _)]; exact e0) (fun i => by rw [p3.1, p3.2.2]) (fun i => by rw [p5.1, p5.2.2]) ⟨p1.1, p2.1, p3.1, p4.1, p5.1⟩
    unfold CO
    rw [p1.1, p2.1, p3.1, p4.1, p5.1, p1.2.1, p2.2.1, p3.2.1, p4.2.1, p5.2.1]
    exact ⟨⟨by rw [h3 a (Nat.le_refl _)]; exact hT, by omega, .inr ha⟩, ⟨rfl, rfl, im_new ha (by omega)⟩, ⟨rfl, rfl, im_new ha (by omega)⟩, ⟨rfl, rfl, im_new ha (by omega)⟩, ⟨rfl, rfl, im_new ha (by omega)⟩, ⟨rfl, rfl, im_new ha (by omega)⟩⟩
  have s4 : ∀ u E, AC t D0 a csh (fun _ _ => 0) 4 (t.2.2.2 + 300) u E → wp S 0 41 [some (qr a)] [] u E Q := fun u E A => b0_41 (chk_i (by rw [A.sa]; exact hT) (chk_i (hfr 5) (s5 _ _ (A.step rfl rfl rfl (by omega)))))
  have s3 : ∀ u E, AC t D0 a csh (fun _ _ => 0) 3 (t.2.2.2 + 255) u E → wp S 0 33 [some (qr a)] [] u E Q := fun u E A => b0_33 (chk_i (by rw [A.sa]; exact hT) (chk_i (hfr 4) (s4 _ _ (A.step rfl rfl rfl (by omega)))))
  have s2 : ∀ u E, AC t D0 a csh (fun _ _ => 0) 2 (t.2.2.2 + 252) u E → wp S 0 26 [some (qr a)] [] u E Q := fun u E A => b0_26 (chk_i (by rw [A.sa]; exact hT) (chk_i (hfr 3) (s3 _ _ (A.step rfl rfl rfl (by omega)))))
  have s1 : ∀ u E, AC t D0 a csh (fun _ _ => 0) 1 (t.2.2.2 + 180) u E → wp S 0 18 [some (qr a)] [] u E Q := fun u E A => b0_18 (chk_i (by rw [A.sa]; exact hT) (chk_i (hfr 2) (s2 _ _ (A.step rfl rfl rfl (by omega)))))
  exact b0_9 (chk_i (by rw [A0.sa]; exact hT) (chk_i (hfr 1) (s1 _ _ (A0.step rfl rfl rfl (by omega)))))
/-- a new machine without frames, on a functions' object -/
def msh (i : Int) : Nat × Int := if i = 1 then (10, 9) else if i = 2 then (10, 4) else if i = 3 then (10, 8) else if i = 4 then (10, 8) else if i = 5 then (10, 48) else (10, 24)
theorem c24 (ha : 34 ≤ a) (hn : t.2.2.1 = a + 1) (hT : (t.1 a).1 = 3) (hl : l < a) (hO : CO t l) (hB : CB t l a) (hK : CR t D l G) (hC : CVd G) (hnf : G 28 14 = D l 0)
    (q : ∀ t' D', t'.2.2.1 = a + 7 → t'.2.2.2 ≤ t.2.2.2 + 101 → KP a t t' D D' → MO t' a → t'.2.1 a 0 = l → (∀ N, N 13 = 0 → N 78 = 0 → (∀ i, 9 ≤ i → i < 110 → N i = 0) → (∀ (f p : Int), 0 ≤ f → f < 3 → 0 ≤ p → p < 3 → N (3 * f + p) = if f < G 28 14 ∧ p < G 38 f then G 40 (15 * f + 5 * p) else 0) → MR t' D' a N) → Q 0 t' D') :
    wp S 22 0 [some (qr a), some (qr l), none, none] [] t D Q := by
  have hfr := fun b : Nat => qsP_fresh ha b
  have h1 := hC.1
  refine b24_0 (chk_i ⟨by omega, by decide⟩ (chk_i hT (chk_i (hfr 0) ?_)))
  generalize ht0 : ((t.1, upP t.2.1 a 0 l, t.2.2) : qT) = t0
  have e1 : t0.1 = t.1 := by rw [← ht0]
  have e2 : ∀ b, b ≠ a → t0.2.1 b = t.2.1 b := fun b hb => by
    rw [← ht0]; funext y; exact if_neg (fun z => hb z.1)
  have e3 : t0.2.2 = t.2.2 := by rw [← ht0]
  have e0 : t0.2.1 a 0 = l := by rw [← ht0]; exact if_pos ⟨rfl, rfl⟩
  have hT0 : (t0.1 a).1 = 3 := by rw [e1]; exact hT
  have z0 : t0.2.2.2 = t.2.2.2 := by rw [e3]
  have A0 := AC.zero (t0 := t0) (D0 := D) (sh := msh) (rw := fun _ _ => 0) (show t0.2.2.1 = a + 1 by rw [e3]; exact hn)
  rw [z0] at A0
  have s6 : ∀ u E, AC t0 D a msh (fun _ _ => 0) 6 (t.2.2.2 + 101) u E → wp S 22 56 [some (qr a), some (qr l), none, none] [] u E Q := fun u E A => by
    obtain ⟨⟨h0, hh1, h2⟩, h3, h4, h5, h6, h7⟩ := A
    have p1 := h6 1 (by omega) (by omega)
    have p2 := h6 2 (by omega) (by omega)
    have p3 := h6 3 (by omega) (by omega)
    have p4 := h6 4 (by omega) (by omega)
    have p5 := h6 5 (by omega) (by omega)
    have p6 := h6 6 (by omega) (by omega)
    have p0 := h7 0 (by omega)
    rw [e0] at p0
    have i1 : (1 : Int).toNat = 1 := rfl
    have i2 : (2 : Int).toNat = 2 := rfl
    have i3 : (3 : Int).toNat = 3 := rfl
    have i4 : (4 : Int).toNat = 4 := rfl
    have i5 : (5 : Int).toNat = 5 := rfl
    have i6 : (6 : Int).toNat = 6 := rfl
    rw [i1] at p1; rw [i2] at p2; rw [i3] at p3; rw [i4] at p4; rw [i5] at p5; rw [i6] at p6
    rw [show msh 1 = (10, 9) from rfl] at p1
    rw [show msh 2 = (10, 4) from rfl] at p2
    rw [show msh 3 = (10, 8) from rfl] at p3
    rw [show msh 4 = (10, 8) from rfl] at p4
    rw [show msh 5 = (10, 48) from rfl] at p5
    rw [show msh 6 = (10, 24) from rfl] at p6
    have hh1 : u.2.2.1 = a + 7 := hh1
    have ua : (u.1 a).1 = 3 := by rw [h3 a (Nat.le_refl _)]; exact hT0
    have kp : KP a t u D E := fun b hb => ⟨by rw [h3 b (by omega), e1], by rw [h4 b hb, e2 b (by omega)], h5 b (by omega)⟩
    have uO : CO u l := hO.kp hB kp (by omega)
    have uM : MO u a := by
      unfold MO
      rw [p0, p1.1, p2.1, p3.1, p4.1, p5.1, p6.1, p1.2.1, p2.2.1, p3.2.1, p4.2.1, p5.2.1, p6.2.1]
      exact ⟨⟨ua, by omega, .inr ha⟩, uO, ⟨rfl, rfl, im_new ha (by omega)⟩, ⟨rfl, rfl, im_new ha (by omega)⟩, ⟨rfl, rfl, im_new ha (by omega)⟩, ⟨rfl, rfl, im_new ha (by omega)⟩, ⟨rfl, rfl, im_new ha (by omega)⟩, ⟨rfl, rfl, im_new ha (by omega)⟩⟩
    refine b24_56 (chk_i ua (b24_61 (chk_i ua (b24_66 ?_))))
    generalize hE1 : up (up E a 7 0) a 8 0 = E1
    have f7 : E1 a 7 = 0 ∧ E1 a 8 = 0 := by rw [← hE1, up_eq, up_eq, upr_s, upr_s]; exact ⟨by rw [ui_n (by decide), ui_s], ui_s⟩
    have fn : ∀ b, b ≠ a → E1 b = E b := fun b hb => by rw [← hE1, up_eq, up_eq, upr_n hb, upr_n hb]
    have uK : ∀ F : qD, (∀ b, b < a → F b = E b) → CR u F l G := fun F h => (hK.kp hB kp).lt (hB.kp kp) h
    have lp : ∀ (m : Nat) (f : Int) (o3 : Option qV) (F : qD), f + m = G 28 14 → 0 ≤ f → (∀ b, b ≠ a + 1 → F b = E1 b) → (∀ (g p : Int), 0 ≤ g → g < 3 → 0 ≤ p → p < 3 → F (a + 1) (3 * g + p) = if g < f ∧ p < G 38 g then G 40 (15 * g + 5 * p) else 0) → wp S 22 68 [some (qr a), some (qr l), some (qi f), o3] [] u F Q := by
      intro m
      induction m with
      | zero =>
        intro f o3 F hf h0 hF hP
        have hK := uK F fun b hb => by rw [hF b (by omega), fn b (by omega)]
        refine b24_68 (chk_i uO.1.1 ?_)
        rw [hK.1]
        refine chk_i (by omega) (chk_i (by omega) (ite_i (fun c => absurd c (by omega)) fun _ => ?_))
        refine q u F hh1 h2 (fun b hb => ⟨(kp b hb).1, (kp b hb).2.1, by rw [hF b (by omega), fn b (by omega)]; exact (kp b hb).2.2⟩) uM p0 fun N n1 n2 n3 n4 => ?_
        unfold MR
        rw [p1.1, p2.1, p3.1, p4.1, p5.1, p6.1, hF a (by omega), f7.1, f7.2, n1, n2, hF (a + 2) (by omega), hF (a + 3) (by omega), hF (a + 4) (by omega), hF (a + 5) (by omega), hF (a + 6) (by omega), fn (a + 2) (by omega), fn (a + 3) (by omega), fn (a + 4) (by omega), fn (a + 5) (by omega), fn (a + 6) (by omega), p2.2.2, p3.2.2, p4.2.2, p5.2.2, p6.2.2]
        refine ⟨fun x y z => ?_, fun x y z => (n3 _ (by omega) (by omega)).symm, rfl, fun x y z => (n3 _ (by omega) (by omega)).symm, fun x y z => (n3 _ (by omega) (by omega)).symm, fun x w y z v r => (n3 _ (by omega) (by omega)).symm, rfl, fun x y z => (n3 _ (by omega) (by omega)).symm⟩
        have e := hP (x / 3) (x % 3) (by omega) (by omega) (by omega) (by omega)
        have e' := n4 (x / 3) (x % 3) (by omega) (by omega) (by omega) (by omega)
        rw [show f = G 28 14 by omega] at e
        rw [show 3 * (x / 3) + x % 3 = x by omega] at e e'
        rw [e, e']
      | succ m ih =>
        intro f o3 F hf h0 hF hP
        have h2' := hC.2.1 f h0 (by omega)
        have inn : ∀ (m' : Nat) (p : Int) (F : qD), p + m' = G 38 f → 0 ≤ p → (∀ b, b ≠ a + 1 → F b = E1 b) → (∀ (g p' : Int), 0 ≤ g → g < 3 → 0 ≤ p' → p' < 3 → F (a + 1) (3 * g + p') = if (g < f ∧ p' < G 38 g) ∨ (g = f ∧ p' < p) then G 40 (15 * g + 5 * p') else 0) → wp S 22 78 [some (qr a), some (qr l), some (qi f), some (qi p)] [] u F Q := by
          intro m'
          induction m' with
          | zero =>
            intro p F hp p0' hF hP
            have hK := uK F fun b hb => by rw [hF b (by omega), fn b (by omega)]
            refine b24_78 (chk_i uO.1.1 (c3 uO (by omega) ?_))
            rw [hK.2.2.2.1 f h0 (by omega)]
            refine chk_i (by omega) (chk_i (by omega) (ite_i (fun c => absurd c (by omega)) fun _ => ?_))
            refine ih (f + 1) _ F (by omega) (by omega) hF fun g p' a1 a2 a3 a4 => ?_
            rw [hP g p' a1 a2 a3 a4]
            by_cases c : (g < f ∧ p' < G 38 g) ∨ (g = f ∧ p' < p)
            · rw [if_pos c]
              rcases c with c | c
              · rw [if_pos ⟨by omega, c.2⟩]
              · have : G 38 g = p := by rw [c.1]; omega
                rw [if_pos ⟨by omega, by omega⟩]
            · rw [if_neg c]
              by_cases cg : g = f
              · have : G 38 g = p := by rw [cg]; omega
                rw [if_neg (by omega)]
              · rw [if_neg (fun z => c (.inl ⟨by omega, z.2⟩))]
          | succ m' ih' =>
            intro p F hp p0' hF hP
            have hK := uK F fun b hb => by rw [hF b (by omega), fn b (by omega)]
            refine b24_78 (chk_i uO.1.1 (c3 uO (by omega) ?_))
            rw [hK.2.2.2.1 f h0 (by omega)]
            refine chk_i (by omega) (chk_i (by omega) (ite_i (fun c => chk_i ua (b103_0 (chk_i uO.1.1 (c5 uO (by omega) ?_)))) fun c => absurd c (by omega)))
            rw [p1.1]
            have e5 := hK.2.2.2.2.1 f p 0 h0 (by omega) p0' (by omega) (by omega) (by omega)
            rw [Int.add_zero, Int.add_zero] at e5
            refine chk_i (by rw [p1.2.1]) (chk_i (by rw [p1.2.1]; exact ⟨by omega, show f * 3 + p < 9 by omega⟩) ?_)
            refine ih' (p + 1) _ (by omega) (by omega) (fun b hb => by rw [up_eq, upr_n hb]; exact hF b hb) fun g p' a1 a2 a3 a4 => ?_
            rw [up_eq, upr_s]
            by_cases c : g = f ∧ p' = p
            · rw [c.1, c.2, show 3 * f + p = f * 3 + p by omega, ui_s, if_pos (by omega), Int.add_zero, e5]
            · rw [ui_n (by omega), hP g p' a1 a2 a3 a4]
              by_cases c2 : (g < f ∧ p' < G 38 g) ∨ (g = f ∧ p' < p)
              · rw [if_pos c2, if_pos (by omega)]
              · rw [if_neg c2, if_neg (by omega)]
        have hK := uK F fun b hb => by rw [hF b (by omega), fn b (by omega)]
        refine b24_68 (chk_i uO.1.1 ?_)
        rw [hK.1]
        refine chk_i (by omega) (chk_i (by omega) (ite_i (fun c => ?_) fun c => absurd c (by omega)))
        refine inn (G 38 f).toNat 0 F (by omega) (Int.le_refl _) hF fun g p' a1 a2 a3 a4 => ?_
        rw [hP g p' a1 a2 a3 a4]
        by_cases c2 : g < f ∧ p' < G 38 g
        · rw [if_pos c2, if_pos (.inl c2)]
        · rw [if_neg c2, if_neg (by omega)]
    refine lp (G 28 14).toNat 0 _ E1 (by omega) (Int.le_refl _) (fun _ _ => rfl) fun g p a1 a2 a3 a4 => ?_
    rw [if_neg (by omega), fn (a + 1) (by omega), p1.2.2]
  have s5 : ∀ u E, AC t0 D a msh (fun _ _ => 0) 5 (t.2.2.2 + 77) u E → wp S 22 48 [some (qr a), some (qr l), none, none] [] u E Q := fun u E A => b24_48 (chk_i (by rw [A.sa]; exact hT0) (chk_i (hfr 6) (s6 _ _ (A.step rfl rfl rfl (by omega)))))
  have s4 : ∀ u E, AC t0 D a msh (fun _ _ => 0) 4 (t.2.2.2 + 29) u E → wp S 22 40 [some (qr a), some (qr l), none, none] [] u E Q := fun u E A => b24_40 (chk_i (by rw [A.sa]; exact hT0) (chk_i (hfr 5) (s5 _ _ (A.step rfl rfl rfl (by omega)))))
  have s3 : ∀ u E, AC t0 D a msh (fun _ _ => 0) 3 (t.2.2.2 + 21) u E → wp S 22 32 [some (qr a), some (qr l), none, none] [] u E Q := fun u E A => b24_32 (chk_i (by rw [A.sa]; exact hT0) (chk_i (hfr 4) (s4 _ _ (A.step rfl rfl rfl (by omega)))))
  have s2 : ∀ u E, AC t0 D a msh (fun _ _ => 0) 2 (t.2.2.2 + 13) u E → wp S 22 24 [some (qr a), some (qr l), none, none] [] u E Q := fun u E A => b24_24 (chk_i (by rw [A.sa]; exact hT0) (chk_i (hfr 3) (s3 _ _ (A.step rfl rfl rfl (by omega)))))
  have s1 : ∀ u E, AC t0 D a msh (fun _ _ => 0) 1 (t.2.2.2 + 9) u E → wp S 22 17 [some (qr a), some (qr l), none, none] [] u E Q := fun u E A => b24_17 (chk_i (by rw [A.sa]; exact hT0) (chk_i (hfr 2) (s2 _ _ (A.step rfl rfl rfl (by omega)))))
  exact b24_9 (chk_i (by rw [A0.sa]; exact hT0) (chk_i (hfr 1) (s1 _ _ (A0.step rfl rfl rfl (by omega)))))
end KN
