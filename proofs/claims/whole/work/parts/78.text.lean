/-! ## the reference's text -/
theorem FUL.ov {pg om pm op pd : Int → Int} {f : Nat} (h : FUL pg om pm op pd f) (hf : f < 3) : OV op f (om f).toNat := by
  obtain ⟨h1, h2, -⟩ := h
  refine ⟨by omega, by omega, fun j hj => ?_⟩
  obtain ⟨a1, a2, a3, a4⟩ := h2 j hj
  exact ⟨a1, a4⟩
theorem TXT.cg {pg om pm op pd om' pm' op' pd' : Int → Int} {len : Int} {nf : Nat} (h : TXT pg len nf om pm op pd) (h1 : ∀ x : Int, 0 ≤ x → x < 3 → om' x = om x ∧ pm' x = pm x) (h2 : ∀ x : Int, 0 ≤ x → x < 72 → op' x = op x) (h3 : ∀ x : Int, 0 ≤ x → x < 45 → pd' x = pd x) : TXT pg len nf om' pm' op' pd' := by
  obtain ⟨t1, t2, t3, t4⟩ := h
  have hb : ∀ f : Nat, f < nf → om f ≤ 8 := fun f a => (t2 f a).1.2.1
  have hP : ∀ M : Nat, M ≤ nf → fPos om' pm' op' M = fPos om pm op M := fun M hM => fPos_cg (fun f a => hb f (by omega)) (fun x a b => h1 x a (by omega)) fun x a b => h2 x a (by omega)
  refine ⟨t1, fun f a => ?_, fun f a => ?_, ?_⟩
  · obtain ⟨f1, f2, f3, f4⟩ := t2 f a
    have e := h1 f (by omega) (by omega)
    unfold FUL
    rw [e.1, e.2, hP f (by omega), oLen_cg fun x c d => h2 x (by omega) (by omega)]
    exact ⟨f1, f2.cg fun x c d => h2 x (by omega) (by omega), f3, f4.cg fun x c d => h3 x (by omega) (by omega)⟩
  · rw [hP (f + 1) (by omega)]; exact t3 f a
  · rw [hP nf (by omega)]; exact t4
theorem OV.r {op : Int → Int} {f : Int} {M : Nat} (h : OV op f M) : ∀ n, n ≤ M → (∀ i, -1 ≤ (sR op f n).1 i ∧ (sR op f n).1 i ≤ 5) ∧ 0 ≤ cA op f n ∧ cA op f n ≤ 9 := by
  intro n
  induction n with
  | zero => intro _; exact ⟨fun _ => ⟨Int.le_refl _, show (-1 : Int) ≤ 5 by decide⟩, Int.le_refl _, show (0 : Int) ≤ 9 by decide⟩
  | succ n ih =>
    intro hn
    have ih := ih (by omega)
    have hd := (h.d n (by omega)).2
    have hv := (h.2.2 n (by omega)).1
    unfold opV at hv
    refine ⟨fun i => ?_, ?_⟩
    · have e : sR op f (n + 1) = oSt op (24 * f + 3 * n) (sR op f n) := rfl
      rw [e]
      have r := ih.1
      generalize sR op f n = R at r
      unfold oSt
      split
      · dsimp only
        split
        · exact r _
        · split
          · decide
          · exact r _
      · split
        · dsimp only
          split
          · exact r _
          · exact r _
        · split
          · unfold ui
            dsimp only
            split
            · omega
            · exact r _
          · split
            · unfold ui
              dsimp only
              split
              · decide
              · exact r _
            · exact r _
    · have e : cA op f (n + 1) = if op (24 * f + 3 * n) = 43 then cA op f n else adN op f n := rfl
      rw [e]
      split
      · exact ih.2
      · exact hd
def TX (D E : qD) (nf : Nat) : Prop := TXT (D 29) (D 28 1) nf (E 37) (E 38) (E 39) (E 40) ∧ (∀ f : Nat, f < nf → DNE (E 39) f (E 37 f).toNat E 10) ∧
  (E 28 14 = nf ∧ E 28 27 = 0 ∧ E 28 31 = 0 ∧ E 28 15 = D 28 15 + 1 ∧ E 28 1 = 0 ∧ E 28 35 = D 28 35) ∧ (∀ b, b = 29 ∨ (43 ≤ b ∧ b ≤ 44) → E b = D b) ∧ (∀ b, ¬ (28 ≤ b ∧ b < 49) → E b = D b) ∧
  (∀ i, 9 ≤ i → i < 110 → E 42 i = 0) ∧ ∀ (f p : Int), 0 ≤ f → f < 3 → 0 ≤ p → p < 3 → E 42 (3 * f + p) = if f < nf ∧ p < E 38 f then E 40 (15 * f + 5 * p) else 0
def TXs (E : qD) (s : zS) : Prop := (∀ i, 0 ≤ i → i < 3 → E 37 i = s.2.1 i ∧ E 38 i = s.2.2.1 i) ∧ (∀ i, 0 ≤ i → i < 72 → E 39 i = s.2.2.2.1 i) ∧ ∀ i, 0 ≤ i → i < 45 → E 40 i = s.2.2.2.2 i
/-- is the page a text -/
def GOOD (D : qD) (s : zS) : Prop := (vRead D).2 = some s ∧ (vRead D).1 = D 28 1 ∧ s.1 5 = 1 ∧ s.1 6 = 0
section RU
variable {S : (Nat → Int32) × Nat} {t : qT} {D : qD} {Q : Int → qT → qD → Prop}
def FB (B E : qD) : Prop := (∀ b, b ≠ 28 → b ≠ 34 → b ≠ 35 → b ≠ 36 → b ≠ 41 → b ≠ 42 → E b = B b) ∧ ∀ i, i ≠ 24 → E 28 i = B 28 i
theorem DNE.frm {op : Int → Int} {f g : Int} {M : Nat} {E E' : qD} (h : DNE op g M E 10) (k : FRM f E E') (hg : 0 ≤ g ∧ g < f) : DNE op g M E' 10 := by
  intro x x0 x1
  obtain ⟨n, a1, a2, a3, a4, a5, a6⟩ := h x x0 x1
  refine ⟨n, a1, a2, a3, fun w y z => ?_, ?_, ?_⟩
  · exact (k.2.2.1 _ (by omega)).trans (a4 w y z)
  · rw [(k.2.2.2 _ (by omega)).1]; exact a5
  · rw [(k.2.2.2 _ (by omega)).2]; exact a6
theorem c127_120 {B : qD} {f : Int} (hf : 0 ≤ f ∧ f < 3) (hp : 0 ≤ B 38 f ∧ B 38 f ≤ 3) :
    ∀ (m : Nat) (p : Int) (E : qD), p + m = B 38 f → 0 ≤ p → FB B E →
    (∀ E', (∀ b, b ≠ 42 → E' b = E b) → (∀ i, E' 42 i = if 3 * f + p ≤ i ∧ i < 3 * f + B 38 f then B 40 (15 * f + 5 * (i - 3 * f)) else E 42 i) → wp S 127 105 [some (qs 28), some (qi (f + 1)), some (qi (B 38 f))] [] t E' Q) →
    wp S 127 120 [some (qs 28), some (qi f), some (qi p)] [] t E Q := by
  intro m
  induction m with
  | zero =>
    intro p E hpm h0 hF q
    have e : E 38 = B 38 := hF.1 38 (by decide) (by decide) (by decide) (by decide) (by decide) (by decide)
    refine b127_120 ?_
    rw [e]
    refine chk_i (by omega) (chk_i (by omega) (chk_i (by omega) (ite_i (fun c => absurd c (by omega)) fun _ => ?_)))
    rw [show p = B 38 f by omega]
    exact q E (fun _ _ => rfl) fun i => by rw [if_neg (by omega)]
  | succ m ih =>
    intro p E hpm h0 hF q
    have e : E 38 = B 38 := hF.1 38 (by decide) (by decide) (by decide) (by decide) (by decide) (by decide)
    have e4 : E 40 = B 40 := hF.1 40 (by decide) (by decide) (by decide) (by decide) (by decide) (by decide)
    refine b127_120 ?_
    rw [e, e4]
    refine chk_i (by omega) (chk_i (by omega) (chk_i (by omega) (ite_i (fun c => chk_i (by omega) (chk_i (by omega) ?_)) fun c => absurd c (by omega))))
    refine ih (p + 1) _ (by omega) (by omega) ⟨fun b x1 x2 x3 x4 x5 x6 => ?_, fun i hi => ?_⟩ fun E' k1 k2 => q E' (fun b hb => ?_) fun i => ?_
    · rw [up_eq, upr_n x6]; exact hF.1 b x1 x2 x3 x4 x5 x6
    · rw [up_eq, upr_n (by decide)]; exact hF.2 i hi
    · rw [k1 b hb, up_eq, upr_n hb]
    · rw [k2 i, up_eq, upr_s]
      by_cases c1 : i = 3 * f + p
      · rw [c1, if_neg (by omega), ui_s, if_pos (by omega), show 3 * f + p - 3 * f = p by omega]
      · rw [ui_n c1]
        by_cases c2 : 3 * f + (p + 1) ≤ i ∧ i < 3 * f + B 38 f
        · rw [if_pos c2, if_pos (by omega)]
        · rw [if_neg c2, if_neg (by omega)]
theorem c127_105 {B : qD} {nf : Nat} {pg : Int → Int} {len : Int} (hT : TXT pg len nf (B 37) (B 38) (B 39) (B 40)) (hn : B 28 14 = nf) (h15 : 0 ≤ B 28 15 ∧ B 28 15 ≤ 512) :
    ∀ (m : Nat) (j : Nat) (j' : Int) (E : qD) (o2 : Option qV), j' = j → j + m = nf → FB B E → (∀ f : Nat, f < j → DNE (B 39) f (B 37 f).toNat E 10) → (∀ i, 9 ≤ i → i < 110 → E 42 i = 0) → (∀ (f p : Int), 0 ≤ f → f < 3 → 0 ≤ p → p < 3 → E 42 (3 * f + p) = if f < j ∧ p < B 38 f then B 40 (15 * f + 5 * p) else 0) →
    (∀ E', FB B E' → (∀ f : Nat, f < nf → DNE (B 39) f (B 37 f).toNat E' 10) → (∀ i, 9 ≤ i → i < 110 → E' 42 i = 0) → (∀ (f p : Int), 0 ≤ f → f < 3 → 0 ≤ p → p < 3 → E' 42 (3 * f + p) = if f < nf ∧ p < B 38 f then B 40 (15 * f + 5 * p) else 0) → Q nf t (up (up (up (up E' 28 27 0) 28 31 0) 28 15 (B 28 15 + 1)) 28 1 0)) →
    wp S 127 105 [some (qs 28), some (qi j'), o2] [] t E Q := by
  have hr := hT.1
  intro m
  induction m with
  | zero =>
    intro j j' E o2 ej hj hF hD h9 h42 q
    obtain rfl : j = nf := by omega
    have e14 : E 28 14 = j := by rw [hF.2 14 (by decide), hn]
    have e15 : E 28 15 = B 28 15 := hF.2 15 (by decide)
    have e15' : ∀ E', E' = up (up E 28 27 0) 28 31 0 → E' 28 15 = B 28 15 := fun E' h => by rw [h, up_eq, up_eq, upr_s, ui_n (by decide), upr_s, ui_n (by decide), e15]
    refine b127_105 ?_
    have r : qR j' := by omega
    have r2 : qR (E 28 14) := by rw [e14]; omega
    refine chk_i r (chk_i r2 (ite_i (fun c => absurd c (by omega)) fun _ => ?_))
    have := q E hF hD h9 h42
    rw [e14]
    first
      | (rw [e15' _ rfl]; exact this)
      | (rw [e15]; exact this)
  | succ m ih =>
    intro j j' E o2 ej hj hF hD h9 h42 q
    have e14 : E 28 14 = nf := by rw [hF.2 14 (by decide), hn]
    have hU := hT.2.1 j (by omega)
    have e37 : E 37 = B 37 := hF.1 37 (by decide) (by decide) (by decide) (by decide) (by decide) (by decide)
    have e39 : E 39 = B 39 := hF.1 39 (by decide) (by decide) (by decide) (by decide) (by decide) (by decide)
    have hov := hU.ov (by omega)
    have h1 := hU.1
    refine b127_105 ?_
    have r : qR j' := by omega
    have r2 : qR (E 28 14) := by rw [e14]; omega
    refine chk_i r (chk_i r2 (ite_i (fun c => ?_) fun c => absurd c (by omega)))
    subst ej
    refine c126 (M := (B 37 j).toNat) (by rw [e39]; exact hov) (by rw [e37]; omega) fun E1 k1 k2 => ?_
    rw [e39] at k2
    have hF1 : FB B E1 := ⟨fun b x1 x2 x3 x4 x5 x6 => by rw [k1.1 b x1 x2 x3 x4 x5]; exact hF.1 b x1 x2 x3 x4 x5 x6, fun i hi => by rw [k1.2.1 i hi]; exact hF.2 i hi⟩
    have e42 : E1 42 = E 42 := k1.1 42 (by decide) (by decide) (by decide) (by decide) (by decide)
    have hD1 : ∀ f : Nat, f < j + 1 → DNE (B 39) f (B 37 f).toNat E1 10 := fun f hf => by
      by_cases c1 : f = j
      · rw [c1]; exact k2
      · exact (hD f (by omega)).frm k1 (by omega)
    refine c127_120 (B := B) (f := j) (by omega) (by omega) (B 38 j).toNat 0 E1 (by omega) (Int.le_refl _) hF1 fun E2 g1 g2 => ?_
    have := ih (j + 1) ((j : Int) + 1) E2 (some (qi (B 38 j))) (by omega) (by omega) ⟨fun b x1 x2 x3 x4 x5 x6 => by rw [g1 b x6]; exact hF1.1 b x1 x2 x3 x4 x5 x6, fun i hi => by rw [g1 28 (by decide)]; exact hF1.2 i hi⟩ (fun f hf => ?_) (fun i a b => ?_) (fun f p a b c d => ?_) q
    · exact this
    · have := hD1 f hf
      intro x x0 x1
      rw [g1 34 (by decide), g1 35 (by decide), g1 36 (by decide)]
      exact this x x0 x1
    · rw [g2, if_neg (by omega), e42]; exact h9 i a b
    · rw [g2, e42, h42 f p a b c d]
      by_cases c1 : f = j
      · subst c1
        by_cases c2 : p < B 38 j
        · rw [if_pos (by omega), if_pos ⟨by omega, c2⟩, show 3 * (j : Int) + p - 3 * (j : Int) = p by omega]
        · rw [if_neg (by omega), if_neg (fun z => c2 z.2), if_neg (fun z => c2 z.2)]
      · rw [if_neg (by omega)]
        by_cases c2 : f < j ∧ p < B 38 f
        · rw [if_pos c2, if_pos ⟨by omega, c2.2⟩]
        · rw [if_neg c2, if_neg (fun z => c2 ⟨by omega, z.2⟩)]
theorem zRun_lo (pg : Int → Int) (len : Int) : ∀ (n : Nat) (i : Int) (s : zS), i ≤ (zRun pg len n i s).1 ∧ (zRun pg len n i s).1 ≤ i + n := by
  intro n
  induction n with
  | zero => intro i s; exact ⟨Int.le_refl _, by show i ≤ i + ((0 : Nat) : Int); omega⟩
  | succ n ih =>
    intro i s
    unfold zRun
    split
    · split
      · have := ih (i + 1) (by assumption)
        omega
      · dsimp only; omega
    · dsimp only; omega
theorem c127_84 : ∀ (m : Nat) (j : Int) (E : qD), j + m = 110 → 0 ≤ j → (∀ i, 0 ≤ i → i < j → E 42 i = 0) → (∀ E', (∀ b, b ≠ 42 → E' b = E b) → (∀ i, 0 ≤ i → i < 110 → E' 42 i = 0) → wp S 127 105 [some (qs 28), some (qi 0), none] [] t E' Q) → wp S 127 84 [some (qs 28), some (qi j), none] [] t E Q := by
  intro m
  induction m with
  | zero =>
    intro j E hj h0 h q
    obtain rfl : j = 110 := by omega
    exact b127_84 (chk_i (by omega) (ite_i (fun c => absurd c (by decide)) fun _ => q E (fun _ _ => rfl) h))
  | succ m ih =>
    intro j E hj h0 h q
    refine b127_84 (chk_i (by omega) (ite_i (fun c => chk_i (by omega) ?_) fun c => absurd c (by omega)))
    refine ih (j + 1) _ (by omega) (by omega) (fun i a b => ?_) fun E' k1 k2 => q E' (fun b hb => by rw [k1 b hb, up_eq, upr_n hb]) k2
    rw [up_eq, upr_s]
    by_cases c : i = j
    · rw [c, ui_s]
    · rw [ui_n c]; exact h i a (by omega)
theorem c127 (h : RVs D) (h15 : D 28 15 < 512) (k0 : ∀ E, SQ D E → (∀ s, ¬ GOOD D s) → Q (-103) t E) (k1 : ∀ s (nf : Nat) E, GOOD D s → s.1 2 + 1 = nf → TX D E nf → TXs E s → Q nf t E) : wp S 127 0 [some (qs 28), none, none] [] t D Q := by
  have hl := h.2.2.2.2.1
  have h15' := h.2.2.2.2.2.1
  refine b127_0 (c122 h fun E hE hs => ?_)
  have e1 : E 28 1 = D 28 1 := hE.2.1
  have hr := zRun_ren (pg := D 29) (len := D 28 1) h.2.2.2.2.2.2.2 100 0 (z0 D) (Int.le_refl _) (by omega) (by omega) (zV_0 D) (z0_ren D)
  rw [e1]
  have hvr : qR (vRead D).1 := by
    by_cases c : (vRead D).1 < D 28 1
    · have := zRun_lo (D 29) (D 28 1) 100 0 (z0 D)
      unfold vRead at c ⊢
      omega
    · obtain ⟨s, -, h2, -⟩ := hr c
      have h2 : (vRead D).1 = D 28 1 := h2
      omega
  refine chk_i hvr (chk_i (by omega) (ite_i (fun c => k0 E hE fun s g => ?_) fun c => ?_))
  · have := g.2.1; omega
  obtain ⟨s, g1, g2, g3, g4⟩ := hr c
  have g1 : (vRead D).2 = some s := g1
  have g2 : (vRead D).1 = D 28 1 := g2
  have hz := hs s g1
  have e5 : E 28 5 = s.1 5 := by rw [← hz]; rfl
  have e6 : E 28 6 = s.1 6 := by rw [← hz]; rfl
  have e2 : E 28 2 = s.1 2 := by rw [← hz]; rfl
  have z5 := g4.2.2.2.1
  have z2 := g4.1
  have z6 := (zVp_of g4)
  unfold zVp at z6
  rw [e5]
  have r5 : qR (s.1 5) := by omega
  have r6 : qR (s.1 6) := by
    rcases z5 with c5 | c5
    · have := z6.2.2.2.2.2.2.1 c5; omega
    · have := z6.2.2.2.2.2.2.2.1 c5; omega
  clear z6
  refine chk_i r5 (ite_i (fun c5 => k0 E hE fun s' g => ?_) fun c5 => ?_)
  · have := g.1; rw [g1] at this; cases this; have := g.2.2.1; omega
  rw [e6]
  refine chk_i r6 (ite_i (fun c6 => ?_) fun c6 => k0 E hE fun s' g => ?_)
  · obtain ⟨M, m1, hT⟩ := g3.txt g4 (by omega) c6
    have hg : GOOD D s := ⟨g1, g2, by omega, c6⟩
    have e30 : E 30 = s.2.1 := by rw [← hz]; rfl
    have e31 : E 31 = s.2.2.1 := by rw [← hz]; rfl
    have e32 : E 32 = s.2.2.2.1 := by rw [← hz]; rfl
    have e33 : E 33 = s.2.2.2.2 := by rw [← hz]; rfl
    refine c124 3 ⟨rfl, rfl⟩ ⟨rfl, rfl⟩ (by decide) (by decide) (c124 3 ⟨rfl, rfl⟩ ⟨rfl, rfl⟩ (by decide) (by decide) (c124 72 ⟨rfl, rfl⟩ ⟨rfl, rfl⟩ (by decide) (by decide) (c124 45 ⟨rfl, rfl⟩ ⟨rfl, rfl⟩ (by decide) (by decide) ?_)))
    generalize hA : up E 28 14 (E 28 2 + 1) = A
    have a28 : ∀ i, i ≠ 14 → A 28 i = E 28 i := fun i hi => by rw [← hA, up_eq, upr_s, ui_n hi]
    have a14 : A 28 14 = s.1 2 + 1 := by rw [← hA, up_eq, upr_s, ui_s, e2]
    have an : ∀ b, b ≠ 28 → A b = E b := fun b hb => by rw [← hA, up_eq, upr_n hb]
    generalize hB1 : upr A 37 (cpf (A 37) (A 30) 0 3) = B1
    have b1 : ∀ b, b ≠ 37 → B1 b = A b := fun b hb => by rw [← hB1, upr_n hb]
    have b1' : ∀ i, 0 ≤ i → i < 3 → B1 37 i = s.2.1 i := fun i x y => by rw [← hB1, upr_s, cpf_y ⟨x, y⟩, an 30 (by decide), e30]
    generalize hB2 : upr B1 38 (cpf (B1 38) (B1 31) 0 3) = B2
    have b2 : ∀ b, b ≠ 38 → B2 b = B1 b := fun b hb => by rw [← hB2, upr_n hb]
    have b2' : ∀ i, 0 ≤ i → i < 3 → B2 38 i = s.2.2.1 i := fun i x y => by rw [← hB2, upr_s, cpf_y ⟨x, y⟩, b1 31 (by decide), an 31 (by decide), e31]
    generalize hB3 : upr B2 39 (cpf (B2 39) (B2 32) 0 72) = B3
    have b3 : ∀ b, b ≠ 39 → B3 b = B2 b := fun b hb => by rw [← hB3, upr_n hb]
    have b3' : ∀ i, 0 ≤ i → i < 72 → B3 39 i = s.2.2.2.1 i := fun i x y => by rw [← hB3, upr_s, cpf_y ⟨x, y⟩, b2 32 (by decide), b1 32 (by decide), an 32 (by decide), e32]
    generalize hB4 : upr B3 40 (cpf (B3 40) (B3 33) 0 45) = B4
    have b4 : ∀ b, b ≠ 40 → B4 b = B3 b := fun b hb => by rw [← hB4, upr_n hb]
    have b4' : ∀ i, 0 ≤ i → i < 45 → B4 40 i = s.2.2.2.2 i := fun i x y => by rw [← hB4, upr_s, cpf_y ⟨x, y⟩, b3 33 (by decide), b2 33 (by decide), b1 33 (by decide), an 33 (by decide), e33]
    have bn : ∀ b, b ≠ 28 → b ≠ 37 → b ≠ 38 → b ≠ 39 → b ≠ 40 → B4 b = E b := fun b h0 h1 h2 h3 h4 => by rw [b4 b h4, b3 b h3, b2 b h2, b1 b h1, an b h0]
    have b28 : ∀ i, i ≠ 14 → B4 28 i = E 28 i := fun i hi => by rw [b4 28 (by decide), b3 28 (by decide), b2 28 (by decide), b1 28 (by decide), a28 i hi]
    have b14 : B4 28 14 = s.1 2 + 1 := by rw [b4 28 (by decide), b3 28 (by decide), b2 28 (by decide), b1 28 (by decide), a14]
    have c37 : ∀ i, 0 ≤ i → i < 3 → B4 37 i = s.2.1 i := fun i x y => by rw [b4 37 (by decide), b3 37 (by decide), b2 37 (by decide)]; exact b1' i x y
    have c38 : ∀ i, 0 ≤ i → i < 3 → B4 38 i = s.2.2.1 i := fun i x y => by rw [b4 38 (by decide), b3 38 (by decide)]; exact b2' i x y
    have c39 : ∀ i, 0 ≤ i → i < 72 → B4 39 i = s.2.2.2.1 i := fun i x y => by rw [b4 39 (by decide)]; exact b3' i x y
    have e15 : E 28 15 = D 28 15 := hE.2.2.2.1
    refine c127_84 110 0 B4 rfl (Int.le_refl _) (fun i a b => absurd b (by omega)) fun B d1 d2 => ?_
    have hTB : TXT (D 29) (D 28 1) (M + 1) (B 37) (B 38) (B 39) (B 40) := hT.cg (fun x a b => ⟨by rw [d1 37 (by decide)]; exact c37 x a b, by rw [d1 38 (by decide)]; exact c38 x a b⟩) (fun x a b => by rw [d1 39 (by decide)]; exact c39 x a b) fun x a b => by rw [d1 40 (by decide)]; exact b4' x a b
    have f28 : ∀ i, i ≠ 14 → B 28 i = E 28 i := fun i hi => by rw [d1 28 (by decide)]; exact b28 i hi
    have fn : ∀ b, b ≠ 28 → b ≠ 37 → b ≠ 38 → b ≠ 39 → b ≠ 40 → b ≠ 42 → B b = E b := fun b h0 h1 h2 h3 h4 h5 => by rw [d1 b h5, bn b h0 h1 h2 h3 h4]
    have f15 : B 28 15 = D 28 15 := by rw [f28 15 (by decide), e15]
    have f14 : B 28 14 = ((M + 1 : Nat) : Int) := by rw [d1 28 (by decide), b14]; omega
    refine c127_105 hTB f14 (by omega) (M + 1) 0 0 B none rfl (by omega) ⟨fun _ _ _ _ _ _ _ => rfl, fun _ _ => rfl⟩ (fun f hf => absurd hf (by omega)) (fun i a b => d2 i (by omega) b) (fun f p a b c d => ?_) fun E' g1 g2 g3 g4' => ?_
    · rw [if_neg (fun z => absurd z.1 (by omega))]; exact d2 _ (by omega) (by omega)
    · have en : ∀ b, b ≠ 28 → up (up (up (up E' 28 27 0) 28 31 0) 28 15 (B 28 15 + 1)) 28 1 0 b = E' b := fun b hb => by rw [up_eq, up_eq, up_eq, up_eq, upr_n hb, upr_n hb, upr_n hb, upr_n hb]
      have e28 : ∀ i, i ≠ 1 → i ≠ 15 → i ≠ 27 → i ≠ 31 → up (up (up (up E' 28 27 0) 28 31 0) 28 15 (B 28 15 + 1)) 28 1 0 28 i = E' 28 i := fun i i1 i2 i3 i4 => by rw [up_eq, up_eq, up_eq, up_eq, upr_s, ui_n i1, upr_s, ui_n i2, upr_s, ui_n i4, upr_s, ui_n i3]
      have v1 : up (up (up (up E' 28 27 0) 28 31 0) 28 15 (B 28 15 + 1)) 28 1 0 28 1 = 0 := by rw [up_eq, upr_s, ui_s]
      have v15 : up (up (up (up E' 28 27 0) 28 31 0) 28 15 (B 28 15 + 1)) 28 1 0 28 15 = D 28 15 + 1 := by rw [up_eq, upr_s, ui_n (by decide), up_eq, upr_s, ui_s, f15]
      have v27 : up (up (up (up E' 28 27 0) 28 31 0) 28 15 (B 28 15 + 1)) 28 1 0 28 27 = 0 := by rw [up_eq, upr_s, ui_n (by decide), up_eq, upr_s, ui_n (by decide), up_eq, upr_s, ui_n (by decide), up_eq, upr_s, ui_s]
      have v31 : up (up (up (up E' 28 27 0) 28 31 0) 28 15 (B 28 15 + 1)) 28 1 0 28 31 = 0 := by rw [up_eq, upr_s, ui_n (by decide), up_eq, upr_s, ui_n (by decide), up_eq, upr_s, ui_s]
      generalize up (up (up (up E' 28 27 0) 28 31 0) 28 15 (B 28 15 + 1)) 28 1 0 = F at en e28 v1 v15 v27 v31 ⊢
      have fB : ∀ b, b ≠ 28 → b ≠ 34 → b ≠ 35 → b ≠ 36 → b ≠ 41 → b ≠ 42 → F b = B b := fun b h0 h1 h2 h3 h4 h5 => by rw [en b h0]; exact g1.1 b h0 h1 h2 h3 h4 h5
      refine k1 s (M + 1) F hg (by omega) ⟨?_, fun f hf => ?_, ⟨?_, v27, v31, v15, v1, ?_⟩, fun b hb => ?_, fun b hb => ?_, fun i a b => ?_, fun f p a b c d => ?_⟩ ⟨fun i a b => ⟨?_, ?_⟩, fun i a b => ?_, fun i a b => ?_⟩
      · rw [fB 37 (by decide) (by decide) (by decide) (by decide) (by decide) (by decide), fB 38 (by decide) (by decide) (by decide) (by decide) (by decide) (by decide), fB 39 (by decide) (by decide) (by decide) (by decide) (by decide) (by decide), fB 40 (by decide) (by decide) (by decide) (by decide) (by decide) (by decide)]
        exact hTB
      · rw [fB 37 (by decide) (by decide) (by decide) (by decide) (by decide) (by decide), fB 39 (by decide) (by decide) (by decide) (by decide) (by decide) (by decide)]
        have := g2 f hf
        intro x x0 x1
        rw [en 34 (by decide), en 35 (by decide), en 36 (by decide)]
        exact this x x0 x1
      · rw [e28 14 (by decide) (by decide) (by decide) (by decide), g1.2 14 (by decide), f14]
      · rw [e28 35 (by decide) (by decide) (by decide) (by decide), g1.2 35 (by decide), f28 35 (by decide)]; exact hE.2.2.2.2.2.2.1
      · rw [fB b (by omega) (by omega) (by omega) (by omega) (by omega) (by omega), fn b (by omega) (by omega) (by omega) (by omega) (by omega) (by omega)]
        exact hE.1 b (by omega) (by omega) (by omega) (by omega) (by omega) (by omega) (by omega)
      · rw [fB b (by omega) (by omega) (by omega) (by omega) (by omega) (by omega), fn b (by omega) (by omega) (by omega) (by omega) (by omega) (by omega)]
        exact hE.1 b (by omega) (by omega) (by omega) (by omega) (by omega) (by omega) (by omega)
      · rw [en 42 (by decide)]; exact g3 i a b
      · rw [en 42 (by decide), fB 38 (by decide) (by decide) (by decide) (by decide) (by decide) (by decide), fB 40 (by decide) (by decide) (by decide) (by decide) (by decide) (by decide)]
        exact g4' f p a b c d
      · rw [fB 37 (by decide) (by decide) (by decide) (by decide) (by decide) (by decide), d1 37 (by decide)]; exact c37 i a b
      · rw [fB 38 (by decide) (by decide) (by decide) (by decide) (by decide) (by decide), d1 38 (by decide)]; exact c38 i a b
      · rw [fB 39 (by decide) (by decide) (by decide) (by decide) (by decide) (by decide), d1 39 (by decide)]; exact c39 i a b
      · rw [fB 40 (by decide) (by decide) (by decide) (by decide) (by decide) (by decide), d1 40 (by decide)]; exact b4' i a b
  · have := g.1; rw [g1] at this; cases this; exact c6 g.2.2.2
end RU
