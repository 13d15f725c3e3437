section KW
variable {S : (Nat → Int32) × Nat} {t : qT} {D G : qD} {Q : Int → qT → qD → Prop} {k a : Nat} {f : Int} {op pd : Int → Int} {M n : Nat}
def CRW (E : qD) (k : Nat) (op : Int → Int) (f : Int) (M : Nat) : Prop := (∀ x, 0 ≤ x → x < 10 → ROWX op f M x (fun w => E (k + 1) ((f * 10 + x) * 6 + w)) (E (k + 1) ((f * 10 + x) * 6 + 4)) (E (k + 1) ((f * 10 + x) * 6 + 5))) ∧
  E (k + 3) f = svN op f M ∧ ∀ j : Nat, j < M → op (24 * f + 3 * j) = 115 → E (k + 2) ((f * 8 + svN op f j) * 3) = adN op f j ∧ E (k + 2) ((f * 8 + svN op f j) * 3 + 1) = op (24 * f + 3 * j + 1) ∧ E (k + 2) ((f * 8 + svN op f j) * 3 + 2) = op (24 * f + 3 * j + 2)
theorem oLen_m : ∀ m n : Nat, n ≤ m → 0 ≤ oLen op f n ∧ oLen op f n ≤ oLen op f m := by
  intro m
  induction m with
  | zero => intro n h; obtain rfl : n = 0 := by omega
            exact ⟨Int.le_refl _, Int.le_refl _⟩
  | succ m ih =>
    intro n h
    have hz := zDig_r (op (24 * f + 3 * m))
    have e : oLen op f (m + 1) = oLen op f m + 1 + zDig (op (24 * f + 3 * m)) := rfl
    by_cases c : n = m + 1
    · have := ih m (Nat.le_refl _)
      rw [c]; omega
    · have := ih n (by omega)
      omega
theorem FRS.pg {D' : qD} (h : FRS D D' a k f) (hk : 34 ≤ k) (ha : 34 ≤ a) (hp : PGr D G) : PGr D' G := hp.of (h.1 1 (by omega) (by omega) (by omega) (by omega) (by omega) (by omega) (by omega) (by omega)) (h.1 2 (by omega) (by omega) (by omega) (by omega) (by omega) (by omega) (by omega) (by omega))
theorem c55_end (hO : SO t a k) (hV : OV op f M) (hS : SN D a k op f M M) (q : ∀ D', FRS D D' a k f → D' a 5 = D a 5 → CRW D' k op f M → D' (k + 4) = D (k + 4) → D' (k + 5) = D (k + 5) → Q 0 t D') : wp S 58 0 [some (qr a), some (qi f), some (qi 10), none, none] [] t D Q := by
  have hO' := hO
  obtain ⟨⟨o1, o2, o3, o4, o5⟩, ⟨o6, o7⟩, o8, ⟨o9, o10, o11, o12, o13⟩, o14, o15⟩ := hO
  obtain ⟨⟨s1, s2, s3⟩, s4, s5, s6, s7, s8⟩ := hS
  have hd := hV.d M (Nat.le_refl _)
  refine c60 (lo := adN op f M) hO' hV.1 s2 (by omega) fun D' g1 g2 g3 g4 => q D' ⟨fun b x1 x2 x3 x4 x5 x6 x7 x8 => g1 b x4 x1, fun i hi => ?_, fun i hi => ?_, fun i hi => ⟨?_, ?_⟩, fun i hi => ?_⟩ (g2 5 (by decide)) ⟨fun x x0 x1 => ?_, ?_, fun j hj h115 => ?_⟩ (g1 _ (by omega) (by omega)) (g1 _ (by omega) (by omega))
  · have := g4 (i / 6 - f * 10) (i % 6) (by omega) (by omega)
    rw [show (f * 10 + (i / 6 - f * 10)) * 6 + i % 6 = i by omega, if_neg (by omega)] at this
    exact this
  · rw [g1 _ (by omega) (by omega)]
  · rw [g1 _ (by omega) (by omega)]
  · rw [g1 _ (by omega) (by omega)]
  · rw [g1 _ (by omega) (by omega)]
  · by_cases cx : x < adN op f M
    · obtain ⟨m, m1, m2, m3, m4, m5, m6⟩ := s6 x x0 cx
      refine ⟨m, m1, m2, m3, fun w w0 w1 => ?_, ?_, ?_⟩
      · exact (g4 x w w0 (by omega)).trans ((if_neg (by omega)).trans (m4 w w0 w1))
      · rw [g4 x 4 (by decide) (by decide), if_neg (by omega)]; exact m5
      · rw [g4 x 5 (by decide) (by decide), if_neg (by omega)]; exact m6
    · refine ⟨M, Nat.le_refl _, by omega, .inl rfl, fun w w0 w1 => ?_, ?_, ?_⟩
      · refine (g4 x w w0 (by omega)).trans ((if_pos (by omega)).trans ?_)
        unfold rowV
        rw [if_pos w1]; exact s4 w w0 w1
      · rw [g4 x 4 (by decide) (by decide), if_pos (by omega)]; exact s1
      · rw [g4 x 5 (by decide) (by decide), if_pos (by omega)]; exact s3
  · rw [g1 _ (by omega) (by omega)]; exact s7
  · rw [g1 _ (by omega) (by omega)]; exact s8 j hj h115
theorem c55 {b : Int} (hO : SO t a k) (h14 : (t.1 1).1 = 4) (hp : PGr D G) (hops : OPS (G 29) op f b M) (hV : OV op f M) (hend : G 29 (b + oLen op f M) = 59) (h0 : 0 ≤ b) (hlen : b + oLen op f M < G 28 1) (h5 : D a 5 = b) (h3 : D (k + 3) f = 0)
    (q : ∀ D', FRS D D' a k f → D' a 5 = b + oLen op f M → CRW D' k op f M → D' (k + 5) = D (k + 5) → Q 0 t D') : wp S 53 0 [some (qr a), some (qi f), none] [] t D Q := by
  have hO' := hO
  obtain ⟨⟨o1, o2, o3, o4, o5⟩, ⟨o6, o7⟩, o8, ⟨o9, o10, o11, o12, o13⟩, o14, o15⟩ := hO
  have h4 : (t.1 (t.2.1 a 0)).1 = 4 := by rw [o2]; exact h14
  have hM8 := hV.2.1
  have lp : ∀ (m n : Nat) (l2 : Int) (E : qD), l2 = n → n + m = M → SN E a k op f M n → E a 5 = b + oLen op f n → FRS D E a k f → E (k + 5) = D (k + 5) → wp S 53 25 [some (qr a), some (qi f), some (qi l2)] [] t E Q := by
    intro m
    induction m with
    | zero =>
      intro n l2 E e2 hn hS h5 hF hk5
      obtain rfl : n = M := by omega
      have hpE := hF.pg o14 (by omega) hp
      refine b55_25 (chk_i (by omega) (ite_i (fun c => chk_i o1 (chk_i o1 (chk_i h4 ?_))) fun c => chk_i o1 ?_))
      · rw [h5]
        have hl := oLen_m (op := op) (f := f) n n (Nat.le_refl _)
        refine c41r hpE o2 (by omega) ?_
        rw [hend]
        refine chk_i (by decide) ?_
        rw [if_pos rfl]
        exact chk_i o1 (c55_end hO' hV hS fun D' g1 g2 g3 _ g5 => q D' (hF.trans g1) (by rw [g2, h5]) g3 (g5.trans hk5))
      · exact c55_end hO' hV hS fun D' g1 g2 g3 _ g5 => q D' (hF.trans g1) (by rw [g2, h5]) g3 (g5.trans hk5)
    | succ m ih =>
      intro n l2 E e2 hn hS h5 hF hk5
      have hpE := hF.pg o14 (by omega) hp
      have hl := oLen_m (op := op) (f := f) M n (by omega)
      have hl1 := oLen_m (op := op) (f := f) M (n + 1) (by omega)
      have el : oLen op f (n + 1) = oLen op f n + 1 + zDig (op (24 * f + 3 * n)) := rfl
      have hz := zDig_r (op (24 * f + 3 * n))
      obtain ⟨p1, p2, p3, -⟩ := hops n (by omega)
      refine b55_25 (chk_i (by omega) (ite_i (fun c => chk_i o1 (chk_i o1 (chk_i h4 ?_))) fun c => absurd c (by omega)))
      rw [h5]
      refine c41r hpE o2 (by omega) ?_
      rw [p2]
      unfold opV at p1
      refine chk_i (by omega) (ite_i (fun c => absurd c (by omega)) fun _ => chk_i o1 ?_)
      refine c56 (p := b + oLen op f n) hO' h14 hpE hV (by omega) hS h5 (by omega) rfl (by omega) p2 p3 fun D' g1 g2 g3 g4 => ?_
      exact ih (n + 1) (l2 + 1) D' (by omega) (by omega) g1 (by rw [g2, el]; omega) (hF.trans g3) (g4.trans hk5)
  refine b55_0 (chk_i o1 ?_)
  rw [o4]
  refine c187 (n := 4) ⟨by rw [o6], by rw [o6]⟩ (by decide) (by decide) fun D1 g1 g2 => chk_i o1 (chk_i o1 (chk_i o1 ?_))
  have e1 : ∀ b, b ≠ a → up (up (up D1 a 4 0) a 6 0) a 7 0 b = D1 b := fun b hb => by rw [up_eq, up_eq, up_eq, upr_n hb, upr_n hb, upr_n hb]
  have e4 : up (up (up D1 a 4 0) a 6 0) a 7 0 a 4 = 0 := by rw [up_eq, up_eq, up_eq, upr_s, upr_s, upr_s, ui_n (by decide), ui_n (by decide), ui_s]
  have e6 : up (up (up D1 a 4 0) a 6 0) a 7 0 a 6 = 0 := by rw [up_eq, up_eq, up_eq, upr_s, upr_s, upr_s, ui_n (by decide), ui_s]
  have e7 : up (up (up D1 a 4 0) a 6 0) a 7 0 a 7 = 0 := by rw [up_eq, upr_s, ui_s]
  have e5 : up (up (up D1 a 4 0) a 6 0) a 7 0 a 5 = b := by rw [up_eq, up_eq, up_eq, upr_s, upr_s, upr_s, ui_n (by decide), ui_n (by decide), ui_n (by decide), g1 a (by omega), h5]
  generalize up (up (up D1 a 4 0) a 6 0) a 7 0 = D2 at e1 e4 e6 e7 e5 ⊢
  refine lp M 0 0 D2 rfl (by omega) ⟨⟨e4, e6, e7⟩, fun w w0 w1 => ?_, fun i i0 i1 => absurd i1 (by show ¬ i < 4 * 0; omega), fun x x0 x1 => absurd x1 (by show ¬ x < 0; omega), ?_, fun j hj => absurd hj (by omega)⟩ (by rw [e5]; show b = b + 0; omega) (FRS.low (fun b b1 b2 b3 => by rw [e1 b b1, g1 b b2]) o15) (by rw [e1 (k + 5) (by omega), g1 (k + 5) (by omega)])
  · rw [e1 (a + 1) (by omega)]; exact g2 w w0 w1
  · rw [e1 (k + 3) (by omega), g1 (k + 3) (by omega)]; exact h3
theorem c6 {p w v : Int} (h : CO t k) (hi : 0 ≤ (f * 3 + p) * 5 + w ∧ (f * 3 + p) * 5 + w < 45) (q : Q 0 t (up D (t.2.1 k 4) ((f * 3 + p) * 5 + w) v)) : wp S 6 0 [some (qr k), some (qi f), some (qi p), some (qi w), some (qi v)] [] t D Q := by
  obtain ⟨h0, h1, h2, h3, h4, -⟩ := h
  exact b6_0 (chk_i h0.1 (chk_i h4.1 (chk_i (by rw [h4.2.1]; exact hi) q)))
theorem c4 {v : Int} (h : CO t k) (hf : 0 ≤ f ∧ f < 3) (q : Q 0 t (up D (t.2.1 k 5) f v)) : wp S 4 0 [some (qr k), some (qi f), some (qi v)] [] t D Q := by
  obtain ⟨h0, h1, h2, h3, h4, h5⟩ := h
  exact b4_0 (chk_i h0.1 (chk_i h5.1 (chk_i (by rw [h5.2.1]; exact hf) q)))
theorem c41o {o : Nat} {i : Int} (hp : PGr D G) (ho : o = 1) (hi : i = G 28 1) (q : Q 0 t D) : wp S 39 0 [some (qr o), some (qi i)] [] t D Q := by
  subst ho
  have h := hp.1
  have h2 := hp.2.1
  refine wp_cg (L := [some (qs 1), some (qi i)]) (st := []) rfl rfl (b41_0 (c102 (by omega) (by omega) ?_))
  rw [if_neg (by omega)]
  exact chk_i (by decide) (by rw [if_pos rfl]; exact q)
def PW (E : qD) (k : Nat) (pd : Int → Int) (f p w : Int) : Prop := ∀ p' w', 0 ≤ w' → w' < 5 → 0 ≤ p' → (p' < p ∨ (p' = p ∧ w' < w)) → E (k + 4) ((f * 3 + p') * 5 + w') = pd (15 * f + 5 * p' + w')
theorem PW.up {E : qD} {p w v : Int} (h : PW E k pd f p w) (hw : 0 ≤ w ∧ w < 5) (hv : v = pd (15 * f + 5 * p + w)) : PW (up E (k + 4) ((f * 3 + p) * 5 + w) v) k pd f p (w + 1) := by
  intro p' w' a1 a2 a3 a4
  rw [up_eq, upr_s]
  by_cases c : p' = p ∧ w' = w
  · rw [c.1, c.2, ui_s, hv]
  · rw [ui_n (by omega)]; exact h p' w' a1 a2 a3 (by omega)
theorem FRS.up4 {p w v : Int} (hk : k + 5 < a) (hp : 0 ≤ p ∧ p < 3) (hw : 0 ≤ w ∧ w < 5) : FRS D (up D (k + 4) ((f * 3 + p) * 5 + w) v) a k f :=
  ⟨fun b x1 x2 x3 x4 x5 x6 x7 x8 => by rw [up_eq, upr_n x7], fun i _ => by rw [up_eq, upr_n (by omega)], fun i _ => by rw [up_eq, upr_n (by omega)], fun i _ => by rw [up_eq, upr_n (by omega), upr_n (by omega)]; exact ⟨rfl, rfl⟩, fun i hi => by rw [up_eq, upr_s, ui_n (by omega)]⟩
theorem c61 {b np : Int} (hO : SO t a k) (h14 : (t.1 1).1 = 4) (hp : PGr D G) (hf : 0 ≤ f ∧ f < 3) (hnp : 0 ≤ np ∧ np ≤ 3) (hpd : PDS (G 29) pd f b np) (hb : 0 ≤ b) (hend : b + 5 * np = G 28 1 ∨ (b + 5 * np < G 28 1 ∧ G 29 (b + 5 * np) = 47)) (h5 : D a 5 = b) (hk5 : D (k + 5) f = 0)
    (q : ∀ D', FRS D D' a k f → D' a 5 = b + 5 * np → D' (k + 5) f = np → PW D' k pd f np 0 → D' (k + 1) = D (k + 1) → D' (k + 2) = D (k + 2) → D' (k + 3) = D (k + 3) → Q 0 t D') : wp S 59 0 [some (qr a), some (qi f), none, none] [] t D Q := by
  have hO' := hO
  obtain ⟨⟨o1, o2, o3, o4, o5⟩, ⟨o6, o7⟩, o8, ⟨o9, o10, o11, o12, o13⟩, o14, o15⟩ := hO
  have h4 : (t.1 (t.2.1 a 0)).1 = 4 := by rw [o2]; exact h14
  have key : ∀ (m : Nat) (p : Int) (o3' : Option qV) (E : qD), p + m = np → 0 ≤ p → E a 5 = b + 5 * p → E (k + 5) f = p → FRS D E a k f → PW E k pd f p 0 → E (k + 1) = D (k + 1) → E (k + 2) = D (k + 2) → E (k + 3) = D (k + 3) → wp S 59 2 [some (qr a), some (qi f), some (qi p), o3'] [] t E Q := by
    intro m
    induction m with
    | zero =>
      intro p o3' E hm h0 e5 ek hF hW w1 w2 w3
      obtain rfl : p = np := by omega
      have hpE := hF.pg o14 (by omega) hp
      have fin := q E hF e5 ek hW w1 w2 w3
      refine b61_2 (chk_i (by omega) (ite_i (fun c => chk_i o1 (chk_i o1 (chk_i h4 ?_))) fun _ => fin))
      rw [e5]
      rcases hend with h | ⟨h, h'⟩
      · refine c41o hpE o2 h (c104 (by decide) ?_)
        exact chk_i (by decide) (by rw [if_pos (by decide)]; exact fin)
      · refine c41r hpE o2 (by omega) ?_
        rw [h']
        refine c104 (by decide) ?_
        exact chk_i (by decide) (by rw [if_pos (by decide)]; exact fin)
    | succ m ih =>
      intro p o3' E hm h0 e5 ek hF hW w1 w2 w3
      have hpE := hF.pg o14 (by omega) hp
      obtain ⟨⟨k1, k2⟩, k3⟩ := hpd p h0 (by omega)
      have hlen : b + 5 * p + 5 ≤ G 28 1 := by omega
      have hr := (hpE.2.2 (b + 5 * p) (by omega) (by omega)).2
      have inn : ∀ (m' : Nat) (w : Int) (E : qD), w + m' = 5 → 1 ≤ w → E a 5 = b + 5 * p → FRS D E a k f → PW E k pd f p w → E (k + 1) = D (k + 1) → E (k + 2) = D (k + 2) → E (k + 3) = D (k + 3) → wp S 59 51 [some (qr a), some (qi f), some (qi p), some (qi w)] [] t E Q := by
        intro m'
        induction m' with
        | zero =>
          intro w E hw w0 e5 hF hW w1 w2 w3
          obtain rfl : w = 5 := by omega
          refine b61_51 (chk_i (by decide) (ite_i (fun c => absurd c (by decide)) fun _ => chk_i o1 ?_))
          rw [o3]
          refine chk_i o8.1.1 (c4 o8 hf (chk_i o1 (chk_i o1 ?_)))
          rw [o13]
          have u1 : ∀ c, c ≠ k + 5 → up E (k + 5) f (p + 1) c = E c := fun c hc => by rw [up_eq, upr_n hc]
          have u2 : up E (k + 5) f (p + 1) (k + 5) = ui (E (k + 5)) f (p + 1) := by rw [up_eq, upr_s]
          generalize up E (k + 5) f (p + 1) = F at u1 u2 ⊢
          have v1 : ∀ c, c ≠ a → up F a 5 (F a 5 + 5) c = F c := fun c hc => by rw [up_eq, upr_n hc]
          have v2 : up F a 5 (F a 5 + 5) a 5 = b + 5 * (p + 1) := by rw [up_eq, upr_s, ui_s, u1 a (by omega), e5]; omega
          generalize up F a 5 (F a 5 + 5) = F2 at v1 v2 ⊢
          refine ih (p + 1) _ F2 (by omega) (by omega) v2 (by rw [v1 _ (by omega), u2, ui_s]) (hF.trans ⟨fun c x1 x2 x3 x4 x5 x6 x7 x8 => by rw [v1 c x1, u1 c x8], fun i _ => by rw [v1 _ (by omega), u1 _ (by omega)], fun i _ => by rw [v1 _ (by omega), u1 _ (by omega)], fun i hi => ⟨by rw [v1 _ (by omega), u1 _ (by omega)], by rw [v1 _ (by omega), u2, ui_n hi]⟩, fun i _ => by rw [v1 _ (by omega), u1 _ (by omega)]⟩) (fun p' w' a1 a2 a3 a4 => ?_) (by rw [v1 _ (by omega), u1 _ (by omega)]; exact w1) (by rw [v1 _ (by omega), u1 _ (by omega)]; exact w2) (by rw [v1 _ (by omega), u1 _ (by omega)]; exact w3)
          rw [v1 _ (by omega), u1 _ (by omega)]
          exact hW p' w' a1 a2 a3 (by omega)
        | succ m' ih' =>
          intro w E hw w0 e5 hF hW w1 w2 w3
          have hpE := hF.pg o14 (by omega) hp
          have := (k3 w w0 (by omega)).1
          refine b61_51 (chk_i (by omega) (ite_i (fun c => chk_i o1 (chk_i o1 (chk_i o1 (chk_i h4 ?_)))) fun c => absurd c (by omega)))
          rw [e5]
          refine c42r hpE o2 (by omega) ?_
          rw [o3]
          refine chk_i o8.1.1 (c6 o8 (by omega) ?_)
          rw [o12]
          refine ih' (w + 1) _ (by omega) (by omega) (by rw [up_eq, upr_n (by omega)]; exact e5) (hF.trans (FRS.up4 o15 (by omega) (by omega))) (hW.up (by omega) (by omega)) (by rw [up_eq, upr_n (by omega)]; exact w1) (by rw [up_eq, upr_n (by omega)]; exact w2) (by rw [up_eq, upr_n (by omega)]; exact w3)
      refine b61_2 (chk_i (by omega) (ite_i (fun c => chk_i o1 (chk_i o1 (chk_i h4 ?_))) fun c => absurd c (by omega)))
      rw [e5]
      refine c41r hpE o2 (by omega) (c104 (by omega) ?_)
      rw [k1]
      refine chk_i (by omega) (ite_i (fun c => absurd c (by omega)) fun _ => chk_i o1 (chk_i o1 (chk_i o1 (chk_i h4 ?_))))
      rw [e5]
      refine c41r hpE o2 (by omega) (c104 (by omega) ?_)
      rw [k1, o3]
      have hi0 : (f * 3 + p) * 5 + 0 = (f * 3 + p) * 5 + 0 := rfl
      refine chk_i o8.1.1 (c6 (w := 0) o8 (by omega) ?_)
      rw [o12]
      exact inn 4 1 _ rfl (by decide) (by rw [up_eq, upr_n (by omega)]; exact e5) (hF.trans (FRS.up4 o15 (by omega) (by omega))) (hW.up ⟨by decide, by decide⟩ (by rw [Int.add_zero])) (by rw [up_eq, upr_n (by omega)]; exact w1) (by rw [up_eq, upr_n (by omega)]; exact w2) (by rw [up_eq, upr_n (by omega)]; exact w3)
  refine b61_0 (key np.toNat 0 none D (by omega) (Int.le_refl _) (by rw [h5]; omega) hk5 (FRS.low (fun _ _ _ _ => rfl) o15) (fun p' w' a1 a2 a3 a4 => absurd a4 (by omega)) rfl rfl rfl)
end KW
