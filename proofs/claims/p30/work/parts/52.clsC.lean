/-! ## the class: new objects -/
def AC (t0 : qT) (D0 : qD) (a : Nat) (sh : Int → Nat × Int) (rw : Int → Int → Int) (j : Int) (s : Nat) (t : qT) (D : qD) : Prop :=
  (0 ≤ j ∧ t.2.2.1 = a + 1 + j.toNat ∧ t.2.2.2 ≤ s) ∧ (∀ b, b ≤ a → t.1 b = t0.1 b) ∧ (∀ b, b < a → t.2.1 b = t0.2.1 b) ∧ (∀ b, b ≤ a → D b = D0 b) ∧
  (∀ i, 1 ≤ i → i ≤ j → t.2.1 a i = a + i.toNat ∧ t.1 (a + i.toNat) = sh i ∧ D (a + i.toNat) = rw i) ∧ (∀ i, ¬ (1 ≤ i ∧ i ≤ j) → t.2.1 a i = t0.2.1 a i)
theorem AC.zero {t0 : qT} {D0 : qD} {a : Nat} {sh : Int → Nat × Int} {rw : Int → Int → Int} (h : t0.2.2.1 = a + 1) : AC t0 D0 a sh rw 0 t0.2.2.2 t0 D0 :=
  ⟨⟨Int.le_refl _, h, Nat.le_refl _⟩, fun _ _ => rfl, fun _ _ => rfl, fun _ _ => rfl, fun i h1 h2 => absurd h1 (by omega), fun _ _ => rfl⟩
theorem AC.step {t0 : qT} {D0 : qD} {a : Nat} {sh : Int → Nat × Int} {rw : Int → Int → Int} {j i : Int} {s s' z : Nat} {t : qT} {D : qD} {K : Nat × Int} {R : Int → Int} (h : AC t0 D0 a sh rw j s t D) (hi : i = j + 1) (hK : K = sh i) (hR : R = rw i) (hz : s + z ≤ s') :
    AC t0 D0 a sh rw i s' (nwT t.1 t.2.2.1 K, upP (nwP t.2.1 t.2.2.1) a i t.2.2.1, (t.2.2.1 + 1, t.2.2.2 + z)) (upr D t.2.2.1 R) := by
  obtain ⟨⟨h0, h1, h2⟩, h3, h4, h5, h6, h7⟩ := h
  subst hi
  refine ⟨⟨by omega, by show t.2.2.1 + 1 = _; omega, by show t.2.2.2 + z ≤ _; omega⟩, fun b hb => ?_, fun b hb => ?_, fun b hb => ?_, fun x hx1 hx2 => ?_, fun x hx => ?_⟩
  · show (if b = t.2.2.1 then K else t.1 b) = _
    rw [if_neg (by omega)]; exact h3 b hb
  · funext y
    show (if b = a ∧ y = j + 1 then t.2.2.1 else if b = t.2.2.1 then 0 else t.2.1 b y) = _
    rw [if_neg (by omega), if_neg (by omega), h4 b hb]
  · rw [upr_n (by omega)]; exact h5 b hb
  · show (if a = a ∧ x = j + 1 then t.2.2.1 else if a = t.2.2.1 then 0 else t.2.1 a x) = _ ∧ (if a + x.toNat = t.2.2.1 then K else t.1 (a + x.toNat)) = _ ∧ _
    by_cases c : x = j + 1
    · subst c
      have e : a + (j + 1).toNat = t.2.2.1 := by omega
      rw [if_pos ⟨rfl, rfl⟩, if_pos e, e, upr_s]
      exact ⟨rfl, hK, hR⟩
    · have := h6 x hx1 (by omega)
      rw [if_neg (by omega), if_neg (by omega), if_neg (by omega), upr_n (by omega)]
      exact this
  · show (if a = a ∧ x = j + 1 then t.2.2.1 else if a = t.2.2.1 then 0 else t.2.1 a x) = _
    rw [if_neg (by omega), if_neg (by omega)]; exact h7 x (by omega)
theorem qsP_fresh {a : Nat} (h : 34 ≤ a) (b : Nat) : qsP a b = none := by
  cases e : qsP a b with
  | none => rfl
  | some v => exact absurd (qsP_lt e).1 (by omega)
/-- cells that were there are as they were -/
def KP (n : Nat) (t t' : qT) (D D' : qD) : Prop := ∀ b, b < n → t'.1 b = t.1 b ∧ t'.2.1 b = t.2.1 b ∧ D' b = D b
theorem im.kp {t t' : qT} {a : Nat} (h : im t a) (hn : t.2.2.1 ≤ t'.2.2.1) : im t' a := ⟨Nat.lt_of_lt_of_le h.1 hn, h.2⟩
theorem CO.kp {t t' : qT} {k n : Nat} {D D' : qD} (h : CO t k) (hb : CB t k n) (hk : KP n t t' D D') (hn : t.2.2.1 ≤ t'.2.2.1) : CO t' k := by
  obtain ⟨b0, b1, b2, b3, b4, b5⟩ := hb
  obtain ⟨h0, h1, h2, h3, h4, h5⟩ := h
  unfold CO
  rw [(hk k b0).2.1, (hk k b0).1, (hk _ b1).1, (hk _ b2).1, (hk _ b3).1, (hk _ b4).1, (hk _ b5).1]
  exact ⟨⟨h0.1, h0.2.kp hn⟩, ⟨h1.1, h1.2.1, h1.2.2.kp hn⟩, ⟨h2.1, h2.2.1, h2.2.2.kp hn⟩, ⟨h3.1, h3.2.1, h3.2.2.kp hn⟩, ⟨h4.1, h4.2.1, h4.2.2.kp hn⟩, ⟨h5.1, h5.2.1, h5.2.2.kp hn⟩⟩
theorem CR.kp {t t' : qT} {k n : Nat} {D D' G : qD} (h : CR t D k G) (hb : CB t k n) (hk : KP n t t' D D') : CR t' D' k G := by
  obtain ⟨b0, b1, b2, b3, b4, b5⟩ := hb
  unfold CR
  rw [(hk k b0).2.1, (hk k b0).2.2, (hk _ b1).2.2, (hk _ b2).2.2, (hk _ b3).2.2, (hk _ b4).2.2, (hk _ b5).2.2]
  exact h
theorem CB.kp {t t' : qT} {k n : Nat} {D D' : qD} (h : CB t k n) (hk : KP n t t' D D') : CB t' k n := by
  unfold CB
  rw [(hk k h.1).2.1]
  exact h
theorem CO.cb {t : qT} {k : Nat} (h : CO t k) : CB t k t.2.2.1 := ⟨h.1.2.1, h.2.1.2.2.1, h.2.2.1.2.2.1, h.2.2.2.1.2.2.1, h.2.2.2.2.1.2.2.1, h.2.2.2.2.2.2.2.1⟩
theorem MO.kp {t t' : qT} {a : Nat} {D D' : qD} (h : MO t a) (hk : KP t.2.2.1 t t' D D') (hn : t.2.2.1 ≤ t'.2.2.1) : MO t' a := by
  obtain ⟨h0, hc, h1, h2, h3, h4, h5, h6⟩ := h
  unfold MO
  rw [(hk a h0.2.1).2.1, (hk a h0.2.1).1, (hk _ h1.2.2.1).1, (hk _ h2.2.2.1).1, (hk _ h3.2.2.1).1, (hk _ h4.2.2.1).1, (hk _ h5.2.2.1).1, (hk _ h6.2.2.1).1]
  exact ⟨⟨h0.1, h0.2.kp hn⟩, hc.kp hc.cb hk hn, ⟨h1.1, h1.2.1, h1.2.2.kp hn⟩, ⟨h2.1, h2.2.1, h2.2.2.kp hn⟩, ⟨h3.1, h3.2.1, h3.2.2.kp hn⟩, ⟨h4.1, h4.2.1, h4.2.2.kp hn⟩, ⟨h5.1, h5.2.1, h5.2.2.kp hn⟩, ⟨h6.1, h6.2.1, h6.2.2.kp hn⟩⟩
theorem MR.kp {t t' : qT} {a : Nat} {D D' : qD} {N : Int → Int} (h : MR t D a N) (ho : MO t a) (hk : KP t.2.2.1 t t' D D') : MR t' D' a N := by
  obtain ⟨h0, hc, h1, h2, h3, h4, h5, h6⟩ := ho
  unfold MR
  rw [(hk a h0.2.1).2.1, (hk a h0.2.1).2.2, (hk _ h1.2.2.1).2.2, (hk _ h2.2.2.1).2.2, (hk _ h3.2.2.1).2.2, (hk _ h4.2.2.1).2.2, (hk _ h5.2.2.1).2.2, (hk _ h6.2.2.1).2.2]
  exact h
section KC
variable {S : (Nat → Int32) × Nat} {t : qT} {D G : qD} {Q : Int → qT → qD → Prop} {a k : Nat} {N : Int → Int}
theorem im_new {t : qT} {a i : Nat} (h : 34 ≤ a) (hi : a + i < t.2.2.1) : im t (a + i) := ⟨hi, .inr (by omega)⟩
theorem c25 {l : Nat} (ha : 34 ≤ a) (hn : t.2.2.1 = a + 1) (hT : (t.1 a).1 = 3) (hO : MO t l) (hla : l ≠ a) (hM : MR t D l N)
    (hp : t.2.1 l 1 < a ∧ t.2.1 l 2 < a ∧ t.2.1 l 3 < a ∧ t.2.1 l 4 < a ∧ t.2.1 l 5 < a ∧ t.2.1 l 6 < a) (hB : CB t (t.2.1 l 0) a)
    (q : ∀ t' D', t'.2.2.1 = a + 7 → t'.2.2.2 ≤ t.2.2.2 + 101 → KP a t t' D D' → t'.1 a = t.1 a → MO t' a → ML t' a → t'.2.1 a 0 = t.2.1 l 0 → MR t' D' a N → CB t' (t'.2.1 a 0) a → Q 0 t' D') :
    wp S 23 0 [some (qr a), some (qr l)] [] t D Q := by
  obtain ⟨o0, oc, o1, o2, o3, o4, o5, o6⟩ := id hO
  have hlt : l < a := by have := o0.2.1; omega
  have hfr := fun b : Nat => qsP_fresh ha b
  refine b25_0 (chk_i (by omega) (chk_i o0.1 (chk_i hT (chk_i (hfr 0) ?_))))
  generalize ht0 : ((t.1, upP t.2.1 a 0 (t.2.1 l 0), t.2.2) : qT) = t0
  have e1 : t0.1 = t.1 := by rw [← ht0]
  have e2 : ∀ b, b ≠ a → t0.2.1 b = t.2.1 b := fun b hb => by
    rw [← ht0]; funext y; exact if_neg (fun z => hb z.1)
  have e3 : t0.2.2 = t.2.2 := by rw [← ht0]
  have e0 : t0.2.1 a 0 = t.2.1 l 0 := by rw [← ht0]; exact if_pos ⟨rfl, rfl⟩
  have A0 := AC.zero (t0 := t0) (D0 := D) (sh := fun i => t.1 (t.2.1 l i)) (rw := fun i => D (t.2.1 l i)) (show t0.2.2.1 = a + 1 by rw [e3]; exact hn)
  have key : ∀ {j : Int} {s : Nat} {u : qT} {E : qD}, AC t0 D a (fun i => t.1 (t.2.1 l i)) (fun i => D (t.2.1 l i)) j s u E → (u.1 l).1 = 3 ∧ (∀ i, t.2.1 l i < a → u.1 (u.2.1 l i) = t.1 (t.2.1 l i) ∧ E (u.2.1 l i) = D (t.2.1 l i)) ∧ (∀ K, ((nwT u.1 u.2.2.1 K) a).1 = 3) ∧ ∀ K, nwT u.1 u.2.2.1 K u.2.2.1 = K := fun {j s u E} A => by
    obtain ⟨⟨h0, h1, h2⟩, h3, h4, h5, h6, h7⟩ := A
    refine ⟨by rw [h3 l (by omega), e1]; exact o0.1, fun i hi => ?_, fun K => ?_, fun K => nwT_s⟩
    · rw [h4 l hlt, e2 l hla, h3 _ (by omega), e1, h5 _ (by omega)]; exact ⟨rfl, rfl⟩
    · show (if a = u.2.2.1 then K else u.1 a).1 = 3
      rw [if_neg (by omega), h3 a (Nat.le_refl _), e1]; exact hT
  have s0 : t0.2.2.2 = t.2.2.2 := by rw [e3]
  have st6 : ∀ u E, AC t0 D a (fun i => t.1 (t.2.1 l i)) (fun i => D (t.2.1 l i)) 6 (t.2.2.2 + 101) u E → wp S 23 96 [some (qr a), some (qr l)] [] u E Q := fun u E A => by
    have k := key A
    obtain ⟨⟨h0, h1, h2⟩, h3, h4, h5, h6, h7⟩ := A
    have ua : (u.1 a).1 = 3 := by rw [h3 a (Nat.le_refl _), e1]; exact hT
    refine b25_96 (chk_i k.1 (chk_i ua (b25_104 (chk_i k.1 (chk_i ua ?_)))))
    have p1 := h6 1 (by omega) (by omega)
    have p2 := h6 2 (by omega) (by omega)
    have p3 := h6 3 (by omega) (by omega)
    have p4 := h6 4 (by omega) (by omega)
    have p5 := h6 5 (by omega) (by omega)
    have p6 := h6 6 (by omega) (by omega)
    have p0 := h7 0 (by omega)
    rw [e0] at p0
    have c1 : (1 : Int).toNat = 1 := rfl
    have c2 : (2 : Int).toNat = 2 := rfl
    have c3 : (3 : Int).toNat = 3 := rfl
    have c4 : (4 : Int).toNat = 4 := rfl
    have c5 : (5 : Int).toNat = 5 := rfl
    have c6 : (6 : Int).toNat = 6 := rfl
    rw [c1] at p1; rw [c2] at p2; rw [c3] at p3; rw [c4] at p4; rw [c5] at p5; rw [c6] at p6
    have h1 : u.2.2.1 = a + 7 := h1
    have hkp : KP a t u D E := fun b hb => ⟨by rw [h3 b (by omega), e1], by rw [h4 b hb, e2 b (by omega)], h5 b (by omega)⟩
    have hE : ∀ b, b ≠ a → (up (up E a 7 (E l 7)) a 8 ((up E a 7 (E l 7)) l 8)) b = E b := fun b hb => by rw [up_eq, up_eq, upr_n hb, upr_n hb]
    have hkp2 : KP a t u D (up (up E a 7 (E l 7)) a 8 ((up E a 7 (E l 7)) l 8)) := fun b hb => ⟨(hkp b hb).1, (hkp b hb).2.1, by rw [hE b (by omega)]; exact (hkp b hb).2.2⟩
    have hle : t.2.2.1 ≤ u.2.2.1 := by omega
    refine q u _ h1 h2 hkp2 (by rw [h3 a (Nat.le_refl _), e1]) ?_ ⟨p1.1, p2.1, p3.1, p4.1, p5.1, p6.1⟩ p0 ?_ (by rw [p0]; exact hB.kp hkp)
    · unfold MO
      rw [p0, p1.1, p2.1, p3.1, p4.1, p5.1, p6.1, p1.2.1, p2.2.1, p3.2.1, p4.2.1, p5.2.1, p6.2.1]
      exact ⟨⟨ua, by omega, .inr ha⟩, oc.kp hB hkp hle, ⟨o1.1, o1.2.1, im_new ha (by omega)⟩, ⟨o2.1, o2.2.1, im_new ha (by omega)⟩, ⟨o3.1, o3.2.1, im_new ha (by omega)⟩, ⟨o4.1, o4.2.1, im_new ha (by omega)⟩, ⟨o5.1, o5.2.1, im_new ha (by omega)⟩, ⟨o6.1, o6.2.1, im_new ha (by omega)⟩⟩
    · obtain ⟨m1, m2, m3, m4, m5, m6, m7, m8⟩ := hM
      have El : E l = D l := h5 l (by omega)
      have r7 : up (up E a 7 (E l 7)) a 8 ((up E a 7 (E l 7)) l 8) a 7 = D l 7 := by
        rw [up_eq, up_eq, upr_s, upr_s, ui_n (by decide), ui_s, El]
      have r8 : up (up E a 7 (E l 7)) a 8 ((up E a 7 (E l 7)) l 8) a 8 = D l 8 := by
        rw [up_eq, up_eq, upr_s, upr_s, ui_s, upr_n hla, El]
      unfold MR
      rw [p1.1, p2.1, p3.1, p4.1, p5.1, p6.1, r7, r8, hE _ (by omega), hE _ (by omega), hE _ (by omega), hE _ (by omega), hE _ (by omega), hE _ (by omega), p1.2.2, p2.2.2, p3.2.2, p4.2.2, p5.2.2, p6.2.2]
      exact ⟨m1, m2, m3, m4, m5, m6, m7, m8⟩
  have st5 : ∀ u E, AC t0 D a (fun i => t.1 (t.2.1 l i)) (fun i => D (t.2.1 l i)) 5 (t.2.2.2 + 77) u E → wp S 23 82 [some (qr a), some (qr l)] [] u E Q := fun u E A => by
    have k := key A
    have f := k.2.1 6 hp.2.2.2.2.2
    have w : (u.1 (u.2.1 l 6)).2.toNat = 24 := by rw [f.1, o6.2.1]; rfl
    exact b25_82 (chk_i k.1 (chk_i (by rw [f.1]; exact o6.1) (chk_i (by rw [k.2.2.2, f.1]; exact o6.1) (chk_i (k.2.2.1 _) (chk_i (hfr 6) (st6 _ _ (A.step rfl f.1 f.2 (by rw [w]; omega))))))))
  have st4 : ∀ u E, AC t0 D a (fun i => t.1 (t.2.1 l i)) (fun i => D (t.2.1 l i)) 4 (t.2.2.2 + 29) u E → wp S 23 68 [some (qr a), some (qr l)] [] u E Q := fun u E A => by
    have k := key A
    have f := k.2.1 5 hp.2.2.2.2.1
    have w : (u.1 (u.2.1 l 5)).2.toNat = 48 := by rw [f.1, o5.2.1]; rfl
    exact b25_68 (chk_i k.1 (chk_i (by rw [f.1]; exact o5.1) (chk_i (by rw [k.2.2.2, f.1]; exact o5.1) (chk_i (k.2.2.1 _) (chk_i (hfr 5) (st5 _ _ (A.step rfl f.1 f.2 (by rw [w]; omega))))))))
  have st3 : ∀ u E, AC t0 D a (fun i => t.1 (t.2.1 l i)) (fun i => D (t.2.1 l i)) 3 (t.2.2.2 + 21) u E → wp S 23 54 [some (qr a), some (qr l)] [] u E Q := fun u E A => by
    have k := key A
    have f := k.2.1 4 hp.2.2.2.1
    have w : (u.1 (u.2.1 l 4)).2.toNat = 8 := by rw [f.1, o4.2.1]; rfl
    exact b25_54 (chk_i k.1 (chk_i (by rw [f.1]; exact o4.1) (chk_i (by rw [k.2.2.2, f.1]; exact o4.1) (chk_i (k.2.2.1 _) (chk_i (hfr 4) (st4 _ _ (A.step rfl f.1 f.2 (by rw [w]; omega))))))))
  have st2 : ∀ u E, AC t0 D a (fun i => t.1 (t.2.1 l i)) (fun i => D (t.2.1 l i)) 2 (t.2.2.2 + 13) u E → wp S 23 40 [some (qr a), some (qr l)] [] u E Q := fun u E A => by
    have k := key A
    have f := k.2.1 3 hp.2.2.1
    have w : (u.1 (u.2.1 l 3)).2.toNat = 8 := by rw [f.1, o3.2.1]; rfl
    exact b25_40 (chk_i k.1 (chk_i (by rw [f.1]; exact o3.1) (chk_i (by rw [k.2.2.2, f.1]; exact o3.1) (chk_i (k.2.2.1 _) (chk_i (hfr 3) (st3 _ _ (A.step rfl f.1 f.2 (by rw [w]; omega))))))))
  have st1 : ∀ u E, AC t0 D a (fun i => t.1 (t.2.1 l i)) (fun i => D (t.2.1 l i)) 1 (t.2.2.2 + 9) u E → wp S 23 26 [some (qr a), some (qr l)] [] u E Q := fun u E A => by
    have k := key A
    have f := k.2.1 2 hp.2.1
    have w : (u.1 (u.2.1 l 2)).2.toNat = 4 := by rw [f.1, o2.2.1]; rfl
    exact b25_26 (chk_i k.1 (chk_i (by rw [f.1]; exact o2.1) (chk_i (by rw [k.2.2.2, f.1]; exact o2.1) (chk_i (k.2.2.1 _) (chk_i (hfr 2) (st2 _ _ (A.step rfl f.1 f.2 (by rw [w]; omega))))))))
  have st0 : ∀ u E, AC t0 D a (fun i => t.1 (t.2.1 l i)) (fun i => D (t.2.1 l i)) 0 (t.2.2.2 + 0) u E → wp S 23 12 [some (qr a), some (qr l)] [] u E Q := fun u E A => by
    have k := key A
    have f := k.2.1 1 hp.1
    have w : (u.1 (u.2.1 l 1)).2.toNat = 9 := by rw [f.1, o1.2.1]; rfl
    exact b25_12 (chk_i k.1 (chk_i (by rw [f.1]; exact o1.1) (chk_i (by rw [k.2.2.2, f.1]; exact o1.1) (chk_i (k.2.2.1 _) (chk_i (hfr 1) (st1 _ _ (A.step rfl f.1 f.2 (by rw [w]; omega))))))))
  exact st0 _ _ (by rw [← s0]; exact A0)
end KC
