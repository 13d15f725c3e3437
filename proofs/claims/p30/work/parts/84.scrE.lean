section KX
variable {S : (Nat → Int32) × Nat} {t : qT} {D G : qD} {Q : Int → qT → qD → Prop} {k a : Nat}
def ssh (i : Int) : Nat × Int := if i = 1 then (10, 4) else (10, 12)
/-- a new scribe -/
theorem c53 (ha : 34 ≤ a) (hn : t.2.2.1 = a + 1) (hT : (t.1 a).1 = 6) (hO : CO t k) (hB : CB t k a) (hk : k + 5 < a) (hk34 : 34 ≤ k) (hL : t.2.1 k 1 = k + 1 ∧ t.2.1 k 2 = k + 2 ∧ t.2.1 k 3 = k + 3 ∧ t.2.1 k 4 = k + 4 ∧ t.2.1 k 5 = k + 5)
    (q : ∀ t' D', t'.2.2.1 = a + 3 → t'.2.2.2 ≤ t.2.2.2 + 16 → KP a t t' D D' → SO t' a k → D' a 5 = 0 → Q 0 t' D') : wp S 51 0 [some (qr a), some (qs 1), some (qr k)] [] t D Q := by
  have hfr := fun b : Nat => qsP_fresh ha b
  refine b53_0 (chk_i ⟨by omega, by decide⟩ ?_)
  have e : ∀ K, ((nwT t.1 t.2.2.1 K) a) = t.1 a := fun K => if_neg (by omega)
  refine chk_i (by rw [e]; exact hT) (chk_i (hfr 2) ?_)
  generalize hu : ((nwT t.1 t.2.2.1 (10, 4), upP (nwP t.2.1 t.2.2.1) a 2 t.2.2.1, (t.2.2.1 + 1, t.2.2.2 + 4)) : qT) = u
  have u1 : ∀ b, b ≠ a + 1 → u.1 b = t.1 b := fun b hb => by rw [← hu]; exact if_neg (by omega)
  have u1a : u.1 (a + 1) = (10, 4) := by rw [← hu]; exact if_pos (by omega)
  have un : u.2.2.1 = a + 2 ∧ u.2.2.2 = t.2.2.2 + 4 := by rw [← hu]; exact ⟨by show t.2.2.1 + 1 = a + 2; omega, rfl⟩
  have u2 : ∀ b, b < a → u.2.1 b = t.2.1 b := fun b hb => by
    rw [← hu]; funext j
    show (if b = a ∧ j = 2 then t.2.2.1 else if b = t.2.2.1 then 0 else t.2.1 b j) = _
    rw [if_neg (by omega), if_neg (by omega)]
  have u2a : u.2.1 a 2 = a + 1 := by
    rw [← hu]
    show (if a = a ∧ (2 : Int) = 2 then t.2.2.1 else if a = t.2.2.1 then 0 else t.2.1 a 2) = _
    rw [if_pos ⟨rfl, rfl⟩]; exact hn
  refine b53_11 ?_
  have e' : ∀ K, ((nwT u.1 u.2.2.1 K) a) = t.1 a := fun K => (if_neg (by omega)).trans (u1 a (by omega))
  refine chk_i (by rw [e']; exact hT) (chk_i (hfr 3) ?_)
  generalize hv : ((nwT u.1 u.2.2.1 (10, 12), upP (nwP u.2.1 u.2.2.1) a 3 u.2.2.1, (u.2.2.1 + 1, u.2.2.2 + 12)) : qT) = v
  have v1 : ∀ b, b ≠ a + 2 → v.1 b = u.1 b := fun b hb => by rw [← hv]; exact if_neg (by omega)
  have v1a : v.1 (a + 2) = (10, 12) := by rw [← hv]; exact if_pos (by omega)
  have vn : v.2.2.1 = a + 3 ∧ v.2.2.2 = t.2.2.2 + 16 := by rw [← hv]; exact ⟨by show u.2.2.1 + 1 = a + 3; omega, by show u.2.2.2 + 12 = _; omega⟩
  have v2 : ∀ b, b < a → v.2.1 b = t.2.1 b := fun b hb => by
    rw [← u2 b hb, ← hv]; funext j
    show (if b = a ∧ j = 3 then u.2.2.1 else if b = u.2.2.1 then 0 else u.2.1 b j) = _
    rw [if_neg (by omega), if_neg (by omega)]
  have v2a : v.2.1 a 2 = a + 1 ∧ v.2.1 a 3 = a + 2 := by
    rw [← hv]
    refine ⟨?_, ?_⟩
    · show (if a = a ∧ (2 : Int) = 3 then u.2.2.1 else if a = u.2.2.1 then 0 else u.2.1 a 2) = _
      rw [if_neg (fun z => absurd z.2 (by decide)), if_neg (by omega)]; exact u2a
    · show (if a = a ∧ (3 : Int) = 3 then u.2.2.1 else if a = u.2.2.1 then 0 else u.2.1 a 3) = _
      rw [if_pos ⟨rfl, rfl⟩]; exact un.1
  have vT : (v.1 a).1 = 6 := by rw [v1 a (by omega), u1 a (by omega)]; exact hT
  generalize hD : upr (upr D t.2.2.1 (fun _ => 0)) u.2.2.1 (fun _ => 0) = D1
  have d1 : ∀ b, b ≤ a → D1 b = D b := fun b hb => by rw [← hD, upr_n (by omega), upr_n (by omega)]
  refine b53_19 (chk_i vT (b53_24 (chk_i vT (b53_29 (chk_i vT (b53_34 (chk_i vT (b53_39 (chk_i vT (chk_i ⟨hfr 0, by decide⟩ ?_))))))))))
  have f5 : up (up (up (up D1 a 4 0) a 5 0) a 6 0) a 7 0 a 5 = 0 := by rw [up_eq, up_eq, up_eq, up_eq, upr_s, upr_s, upr_s, upr_s, ui_n (by decide), ui_n (by decide), ui_s]
  have fn : ∀ b, b ≠ a → up (up (up (up D1 a 4 0) a 5 0) a 6 0) a 7 0 b = D1 b := fun b hb => by rw [up_eq, up_eq, up_eq, up_eq, upr_n hb, upr_n hb, upr_n hb, upr_n hb]
  generalize up (up (up (up D1 a 4 0) a 5 0) a 6 0) a 7 0 = D2 at f5 fn ⊢
  refine b53_44 (chk_i vT (chk_i (hfr 1) ?_))
  generalize hw : ((v.1, upP (upP v.2.1 a 0 1) a 1 k, v.2.2) : qT) = w
  have w1 : w.1 = v.1 := by rw [← hw]
  have wn : w.2.2 = v.2.2 := by rw [← hw]
  have w2 : ∀ b, b ≠ a → w.2.1 b = v.2.1 b := fun b hb => by
    rw [← hw]; funext j
    show (if b = a ∧ j = 1 then k else if b = a ∧ j = 0 then 1 else v.2.1 b j) = _
    rw [if_neg (fun z => hb z.1), if_neg (fun z => hb z.1)]
  have w2a : ∀ j, w.2.1 a j = if j = 1 then k else if j = 0 then 1 else v.2.1 a j := fun j => by
    rw [← hw]
    show (if a = a ∧ j = 1 then k else if a = a ∧ j = 0 then 1 else v.2.1 a j) = _
    by_cases c1 : j = 1
    · rw [if_pos ⟨rfl, c1⟩, if_pos c1]
    · rw [if_neg (fun z => c1 z.2), if_neg c1]
      by_cases c2 : j = 0
      · rw [if_pos ⟨rfl, c2⟩, if_pos c2]
      · rw [if_neg (fun z => c2 z.2), if_neg c2]
  have kp : KP a t w D D2 := fun b hb => ⟨by rw [w1, v1 b (by omega), u1 b (by omega)], by rw [w2 b (by omega), v2 b hb], by rw [fn b (by omega), d1 b (by omega)]⟩
  refine q w D2 (by rw [wn]; exact vn.1) (by rw [wn]; omega) kp ⟨⟨by rw [w1]; exact vT, by rw [w2a 0]; rfl, by rw [w2a 1]; rfl, (w2a 2).trans v2a.1, (w2a 3).trans v2a.2⟩, ⟨by rw [w1, v1 _ (by omega)]; exact u1a, by rw [w1]; exact v1a⟩, hO.kp hB kp (by rw [wn]; omega), by rw [(kp k (by omega)).2.1]; exact hL, hk34, hk⟩ f5
/-- the whole text, written into a functions' object -/
def CDN (E : qD) (k : Nat) (om pm op pd : Int → Int) (f : Nat) : Prop := CRW E k op f (om f).toNat ∧ E (k + 5) f = pm f ∧ PW E k pd f (pm f) 0
theorem CDN.frs {E E' : qD} {om pm op pd : Int → Int} {g : Nat} {f : Int} (h : CDN E k om pm op pd g) (hF : FRS E E' a k f) (hg : (g : Int) < f) (hp : 0 ≤ pm g ∧ pm g ≤ 3) (hV : OV op g (om g).toNat) : CDN E' k om pm op pd g := by
  obtain ⟨⟨c1, c2, c3⟩, c4, c5⟩ := h
  obtain ⟨f1, f2, f3, f4, f5⟩ := hF
  have hM8 := hV.2.1
  refine ⟨⟨fun x x0 x1 => ?_, ?_, fun j hj h115 => ?_⟩, ?_, fun p' w' a1 a2 a3 a4 => ?_⟩
  · obtain ⟨m, m1, m2, m3, m4, m5, m6⟩ := c1 x x0 x1
    refine ⟨m, m1, m2, m3, fun w w0 w1 => (f2 _ (by omega)).trans (m4 w w0 w1), ?_, ?_⟩
    · rw [f2 _ (by omega)]; exact m5
    · rw [f2 _ (by omega)]; exact m6
  · rw [(f4 _ (by omega)).1]; exact c2
  · have hsv := svN_r op g j
    rw [f3 _ (by omega), f3 _ (by omega), f3 _ (by omega)]; exact c3 j hj h115
  · rw [(f4 _ (by omega)).2]; exact c4
  · rw [f5 _ (by omega)]; exact c5 p' w' a1 a2 a3 a4
theorem c54 {om pm op pd : Int → Int} {nf : Nat} (hO : SO t a k) (h14 : (t.1 1).1 = 4) (hp : PGr D G) (hT : TXT (G 29) (G 28 1) nf om pm op pd) (h5 : D a 5 = 0) (hk0 : D k 0 = 0) (hk3 : ∀ i, D (k + 3) i = 0) (hk5 : ∀ i, D (k + 5) i = 0)
    (q : ∀ D', (∀ b, b < k → D' b = D b) → D' k 0 = (nf : Int) → (∀ f : Nat, f < nf → CDN D' k om pm op pd f) → Q 0 t D') : wp S 52 0 [some (qr a), none] [] t D Q := by
  have hO' := hO
  obtain ⟨⟨o1, o2, o3, o4, o5⟩, ⟨o6, o7⟩, o8, ⟨o9, o10, o11, o12, o13⟩, o14, o15⟩ := hO
  have h4 : (t.1 (t.2.1 a 0)).1 = 4 := by rw [o2]; exact h14
  have hlen := hp.2.1
  obtain ⟨t1, t2, t3, t4⟩ := hT
  have pos : ∀ f : Nat, f ≤ nf → 0 ≤ fPos om pm op f := by
    intro f
    induction f with
    | zero => intro _; exact Int.le_refl _
    | succ f ih =>
      intro hf
      have := ih (by omega)
      have h1 := (t2 f (by omega)).1
      have h2 := oLen_m (op := op) (f := f) (om f).toNat (om f).toNat (Nat.le_refl _)
      unfold fPos
      omega
  have up1 : ∀ m n : Nat, n ≤ m → m ≤ nf → fPos om pm op n ≤ fPos om pm op m := by
    intro m
    induction m with
    | zero => intro n h _; obtain rfl : n = 0 := by omega
              exact Int.le_refl _
    | succ m ih =>
      intro n h hm
      by_cases c : n = m + 1
      · rw [c]; exact Int.le_refl _
      · have := ih n (by omega) (by omega)
        have h1 := (t2 m (by omega)).1
        have h2 := oLen_m (op := op) (f := m) (om m).toNat (om m).toNat (Nat.le_refl _)
        have e : fPos om pm op (m + 1) = fPos om pm op m + oLen op m (om m).toNat + 1 + 5 * pm m + 1 := rfl
        omega
  have lp : ∀ (m f : Nat) (l1 : Int) (E : qD), l1 = f → f + m = nf → E a 5 = fPos om pm op f → E k 0 = (f : Int) → (∀ b, b < k → E b = D b) → (∀ i, (f : Int) ≤ i → E (k + 3) i = 0 ∧ E (k + 5) i = 0) → (∀ g : Nat, g < f → CDN E k om pm op pd g) → wp S 52 2 [some (qr a), some (qi l1)] [] t E Q := by
    intro m
    induction m with
    | zero =>
      intro f l1 E e1 hf e5 ek hlow hz hD
      obtain rfl : f = nf := by omega
      have hpE : PGr E G := hp.of (hlow 1 (by omega)) (hlow 2 (by omega))
      have fin := q E hlow ek hD
      refine b54_2 (chk_i (by omega) (ite_i (fun c => chk_i o1 (chk_i o1 (chk_i h4 ?_))) fun _ => fin))
      rw [o2, e5, hpE.1]
      have := pos f (Nat.le_refl _)
      exact chk_i (by omega) (chk_i (by omega) (ite_i (fun c => absurd c (by omega)) fun _ => fin))
    | succ m ih =>
      intro f l1 E e1 hf e5 ek hlow hz hD
      have hpE : PGr E G := hp.of (hlow 1 (by omega)) (hlow 2 (by omega))
      have hU := t2 f (by omega)
      have hV := hU.ov (by omega)
      obtain ⟨u1, u2, u3, u4⟩ := hU
      have hp0 := pos f (by omega)
      have hol := oLen_m (op := op) (f := f) (om f).toNat (om f).toNat (Nat.le_refl _)
      have ep : fPos om pm op (f + 1) = fPos om pm op f + oLen op f (om f).toNat + 1 + 5 * pm f + 1 := rfl
      have hle := up1 nf (f + 1) (by omega) (Nat.le_refl _)
      refine b54_2 ?_
      have r1 : qR l1 := by omega
      refine chk_i r1 (ite_i (fun _ => chk_i o1 (chk_i o1 (chk_i h4 ?_))) fun c => absurd c (by omega))
      rw [o2, e5, hpE.1]
      refine chk_i (by omega) (chk_i (by omega) (ite_i (fun _ => chk_i o1 ?_) fun c => absurd c (by omega)))
      subst e1
      refine c55 (b := fPos om pm op f) hO' h14 hpE u2 hV u3 hp0 (by omega) e5 (hz f (Int.le_refl _)).1 fun D1 a1 a2 a3 a4 => chk_i o1 (chk_i o1 (chk_i o1 ?_))
      have v1 : ∀ b, b ≠ a → up D1 a 5 (D1 a 5 + 1) b = D1 b := fun b hb => by rw [up_eq, upr_n hb]
      have v5 : up D1 a 5 (D1 a 5 + 1) a 5 = fPos om pm op f + oLen op f (om f).toNat + 1 := by rw [up_eq, upr_s, ui_s, a2]
      generalize up D1 a 5 (D1 a 5 + 1) = D2 at v1 v5 ⊢
      have hF2 : FRS E D2 a k f := a1.trans (FRS.low (fun b b1 _ _ => v1 b b1) o15)
      have hcr : CRW D2 k op f (om f).toNat := by
        unfold CRW
        rw [v1 (k + 1) (by omega), v1 (k + 2) (by omega), v1 (k + 3) (by omega)]; exact a3
      refine c61 (b := fPos om pm op f + oLen op f (om f).toNat + 1) (pd := pd) (np := pm f) hO' h14 (hF2.pg o14 (by omega) hpE) (by omega) (by omega) u4 (by omega) ?_ v5 (by rw [v1 _ (by omega), a4]; exact (hz f (Int.le_refl _)).2) fun D3 b1 b2 b3 b4 b5 b6 b7 => chk_i o1 (chk_i o1 (chk_i o1 ?_))
      · by_cases c : f + 1 < nf
        · have h47 := t3 f c
          have hle' := up1 nf (f + 1) (by omega) (Nat.le_refl _)
          have hne : fPos om pm op (f + 1) < fPos om pm op nf := by
            have h2 := up1 nf (f + 2) (by omega) (Nat.le_refl _)
            have e2 : fPos om pm op (f + 2) = fPos om pm op (f + 1) + oLen op (f + 1 : Nat) (om (f + 1 : Nat)).toNat + 1 + 5 * pm (f + 1 : Nat) + 1 := rfl
            have h1 := (t2 (f + 1) (by omega)).1
            have h3 := oLen_m (op := op) (f := (f + 1 : Nat)) (om (f + 1 : Nat)).toNat (om (f + 1 : Nat)).toNat (Nat.le_refl _)
            omega
          refine .inr ⟨by omega, ?_⟩
          rw [show fPos om pm op f + oLen op f (om f).toNat + 1 + 5 * pm f = fPos om pm op (f + 1) - 1 by omega]; exact h47
        · obtain rfl : nf = f + 1 := by omega
          exact .inl (by omega)
      · rw [o3]
        refine chk_i o8.1.1 (chk_i o8.1.1 ?_)
        have hF3 : FRS E D3 a k f := hF2.trans b1
        have w1 : ∀ b, b ≠ a → b ≠ k → up (up D3 a 5 (D3 a 5 + 1)) k 0 (up D3 a 5 (D3 a 5 + 1) k 0 + 1) b = D3 b := fun b hb hk => by rw [up_eq, up_eq, upr_n hk, upr_n hb]
        have w5 : up (up D3 a 5 (D3 a 5 + 1)) k 0 (up D3 a 5 (D3 a 5 + 1) k 0 + 1) a 5 = fPos om pm op (f + 1) := by rw [up_eq, upr_n (by omega), up_eq, upr_s, ui_s, b2, ep]
        have wk : up (up D3 a 5 (D3 a 5 + 1)) k 0 (up D3 a 5 (D3 a 5 + 1) k 0 + 1) k 0 = (f : Int) + 1 := by rw [up_eq, upr_s, ui_s, up_eq, upr_n (by omega), hF3.1 k (by omega) (by omega) (by omega) (by omega) (by omega) (by omega) (by omega) (by omega), ek]
        generalize up (up D3 a 5 (D3 a 5 + 1)) k 0 (up D3 a 5 (D3 a 5 + 1) k 0 + 1) = D4 at w1 w5 wk ⊢
        refine ih (f + 1) _ D4 (by omega) (by omega) w5 (by rw [wk]; omega) (fun b hb => ?_) (fun i hi => ?_) fun g hg => ?_
        · rw [w1 b (by omega) (by omega), hF3.1 b (by omega) (by omega) (by omega) (by omega) (by omega) (by omega) (by omega) (by omega)]; exact hlow b hb
        · rw [w1 _ (by omega) (by omega), w1 _ (by omega) (by omega), (hF3.2.2.2.1 i (by omega)).1, (hF3.2.2.2.1 i (by omega)).2]
          exact hz i (by omega)
        · have hD3 : CDN D3 k om pm op pd g := by
            by_cases c : g = f
            · subst c
              refine ⟨?_, b3, b4⟩
              unfold CRW
              rw [b5, b6, b7]; exact hcr
            · have hg' := t2 g (by omega)
              exact (hD g (by omega)).frs hF3 (by omega) (by have := hg'.1; omega) (hg'.ov (by omega))
          obtain ⟨⟨x1, x2, x3⟩, x4, x5⟩ := hD3
          unfold CDN CRW PW
          rw [w1 (k + 1) (by omega) (by omega), w1 (k + 2) (by omega) (by omega), w1 (k + 3) (by omega) (by omega), w1 (k + 4) (by omega) (by omega), w1 (k + 5) (by omega) (by omega)]
          exact ⟨⟨x1, x2, x3⟩, x4, x5⟩
  exact b54_0 (lp nf 0 0 D rfl (by omega) h5 hk0 (fun _ _ => rfl) (fun i _ => ⟨hk3 i, hk5 i⟩) fun g hg => absurd hg (by omega))
end KX
