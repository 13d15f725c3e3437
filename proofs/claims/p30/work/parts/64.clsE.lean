/-! ## the class's calls that tell -/
def XM (t : qT) (D G : qD) : Prop := MO t (t.2.1 0 5) ∧ MR t D (t.2.1 0 5) (G 42) ∧ CR t D (t.2.1 (t.2.1 0 5) 0) G
def SRl (D : qD) (s x y z : Nat) (sg : Int → Int) (m : Int) : Prop := D s 3 = m ∧ ∀ i, 0 ≤ i → i < m → D x i = sg (4 * i) * 3 + sg (4 * i + 1) ∧ D y i = sg (4 * i + 2) ∧ D z i = sg (4 * i + 3) ∧ (0 ≤ sg (4 * i) ∧ sg (4 * i) ≤ 2) ∧ (0 ≤ sg (4 * i + 1) ∧ sg (4 * i + 1) ≤ 2) ∧ (0 ≤ sg (4 * i + 2) ∧ sg (4 * i + 2) ≤ 4) ∧ (0 ≤ sg (4 * i + 3) ∧ sg (4 * i + 3) ≤ 2)
section KE
variable {S : (Nat → Int32) × Nat} {t : qT} {D G : qD} {Q : Int → qT → qD → Prop}
theorem tf1 {c : Prop} [Decidable c] {A B : Prop} (h1 : c → B) (h2 : ¬ c → A) : chk (qR (if c then (1 : Int) else 0)) (if (if c then (1 : Int) else 0) = 0 then A else B) := chk_i tfR (tf h1 h2)
theorem c98 (hX : XM t D G) (hC : CVd G) (k : Q (if G 28 14 = 0 then 0 else 1) t D) : wp S 84 0 [some (qs 0)] [] t D Q := by
  have h1 := hC.1
  have e := hX.2.2.1
  obtain ⟨o0, oc, -⟩ := hX.1
  refine b98_0 (chk_i o0.1 (chk_i oc.1.1 ?_))
  rw [e]
  refine chk_i (by omega) (ite_i (fun h => ?_) fun h => ?_)
  · rwa [if_neg (by omega)] at k
  · rwa [if_pos (by omega)] at k
theorem c99 {f : Int} (hX : XM t D G) (hC : CVd G) (hf : qR f) (k : Q (if 0 ≤ f ∧ f < G 28 14 then 1 else 0) t D) : wp S 85 0 [some (qs 0), some (qi f)] [] t D Q := by
  have h1 := hC.1
  have e := hX.2.2.1
  obtain ⟨o0, oc, -⟩ := hX.1
  refine b99_0 (chk_i o0.1 (chk_i oc.1.1 ?_))
  rw [e]
  refine c102 hf (by omega) (chk_i ?_ k)
  split
  · exact .inr rfl
  · exact .inl rfl
theorem c100 {f p : Int} (hX : XM t D G) (hC : CVd G) (hf : qR f) (hp : qR p) (k : Q (if 0 ≤ f ∧ f < G 28 14 ∧ 0 ≤ p ∧ p < G 38 f then 1 else 0) t D) : wp S 86 0 [some (qs 0), some (qi f), some (qi p)] [] t D Q := by
  have h1 := hC.1
  obtain ⟨o0, oc, -⟩ := hX.1
  refine b100_0 (c99 hX hC hf (tf1 (fun c => chk_i o0.1 (chk_i oc.1.1 (c3 oc (by omega) ?_))) fun c => ?_))
  · have h2 := hC.2.1 f c.1 c.2
    rw [hX.2.2.2.2.2.1 f c.1 c.2]
    refine c102 hp (by omega) (tf1 (fun c2 => ?_) fun c2 => ?_)
    · rwa [if_pos ⟨c.1, c.2, c2.1, c2.2⟩] at k
    · rwa [if_neg (fun z => c2 ⟨z.2.2.1, z.2.2.2⟩)] at k
  · rwa [if_neg (fun z => c ⟨z.1, z.2.1⟩)] at k
theorem x72 {f b w : Int} (hX : XM t D G) (hG : RVs G) (hf : qR f) (hb : qR b) (hw : qR w) (k : Q (vRow G f b w) t D) : wp S 67 0 [some (qs 0), some (qi f), some (qi b), some (qi w)] [] t D Q := by
  have h1 := hG.1.1
  obtain ⟨o0, oc, -⟩ := id hX.1
  unfold vRow vTellRow at k
  refine b72_0 (c99 hX hG.1 hf (tf1 (fun c => c102 hb (by omega) (tf1 (fun c2 => c102 hw (by omega) (tf1 (fun c3 => chk_i o0.1 (chk_i oc.1.1 (c1 oc (by omega) ?_))) fun c3 => ?_)) fun c2 => ?_)) fun c => ?_))
  · rw [if_neg (fun z => z c), if_neg (by omega), if_neg (by omega)] at k
    have r2 := hX.2.2.2.2.1 f b c.1 c.2 c2.1 c2.2
    by_cases w4 : w = 4
    · rw [if_pos w4] at k; rw [w4, r2.1]; exact k
    · rw [if_neg w4] at k
      by_cases w5 : w = 5
      · rw [if_pos w5] at k; rw [w5, r2.2]; exact k
      · rw [if_neg w5] at k
        rw [hX.2.2.2.1 f b w c.1 c.2 c2.1 c2.2 c3.1 (by omega)]; exact k
  · rwa [if_neg (fun z => z c), if_neg (by omega), if_pos (by omega)] at k
  · rwa [if_neg (fun z => z c), if_pos (by omega)] at k
  · rwa [if_pos c] at k
theorem c65_3 {sg : Int → Int} {m f p own kd : Int} (hs : SRl D 7 8 9 10 sg m) (hm : 0 ≤ m ∧ m ≤ 6) (hf : 0 ≤ f ∧ f < 3) (hp : 0 ≤ p ∧ p < 3) (ho : 0 ≤ own ∧ own ≤ 4) (hk : 0 ≤ kd ∧ kd ≤ 4) :
    ∀ (n : Nat) (i : Int), i + n = 6 → 0 ≤ i → Q (if sCan sg m f p own kd n i = true then 1 else 0) t D → wp S 62 3 [some (qs 7), some (qi kd), some (qi (f * 3 + p)), some (qi own), some (qi i)] [] t D Q := by
  intro n
  induction n with
  | zero =>
    intro i hi h0 q
    refine b65_3 (chk_i (by omega) ?_)
    rw [hs.1]
    exact chk_i (by omega) (ite_i (fun c => absurd c (by omega)) fun _ => q)
  | succ n ih =>
    intro i hi h0 q
    have es : sCan sg m f p own kd (n + 1) i = if i < m then (if sg (4 * i) = f ∧ sg (4 * i + 1) = p ∧ ¬ sDoes kd own (sg (4 * i + 2)) = sg (4 * i + 3) then false else sCan sg m f p own kd n (i + 1)) else true := rfl
    refine b65_3 (chk_i (by omega) ?_)
    rw [hs.1]
    refine chk_i (by omega) (ite_i (fun c => chk_i (by omega) ?_) fun c => ?_)
    · obtain ⟨e1, e2, e3, g1, g2, g3, g4⟩ := hs.2 i h0 c
      rw [if_pos c] at es
      rw [e1]
      have hd := sDoes_r kd own (sg (4 * i + 2))
      refine chk_i (by omega) (chk_i (by omega) (ite_i (fun c2 => chk_i (by omega) ?_) fun c2 => ?_))
      · rw [e2]
        refine c106 hk (by omega) (by omega) (chk_i (by omega) (chk_i (by omega) ?_))
        rw [e3]
        refine chk_i (by omega) (ite_i (fun c3 => ?_) fun c3 => ?_)
        · rw [if_neg (fun z => z.2.2 c3)] at es
          rw [es] at q
          exact ih (i + 1) (by omega) (by omega) q
        · rw [if_pos ⟨by omega, by omega, c3⟩] at es
          rw [es, if_neg (fun z => Bool.noConfusion z)] at q
          exact q
      · rw [if_neg (by omega)] at es
        rw [es] at q
        exact ih (i + 1) (by omega) (by omega) q
    · rw [if_neg c] at es
      rw [es, if_pos rfl] at q
      exact q
theorem c64 {sg : Int → Int} {m f p own : Int} (hs : SRl D 7 8 9 10 sg m) (hm : 0 ≤ m ∧ m ≤ 6) (hf : 0 ≤ f ∧ f < 3) (hp : 0 ≤ p ∧ p < 3) (ho : 0 ≤ own ∧ own ≤ 4) (k : Q (sSorts sg m f p own 5 0 0) t D) :
    wp S 61 0 [some (qs 7), some (qi (f * 3 + p)), some (qi own), none, none] [] t D Q := by
  have lp : ∀ (n : Nat) (kd b : Int), kd + n = 5 → 0 ≤ kd → Q (sSorts sg m f p own n kd b) t D → wp S 61 5 [some (qs 7), some (qi (f * 3 + p)), some (qi own), some (qi b), some (qi kd)] [] t D Q := by
    intro n
    induction n with
    | zero =>
      intro kd b hn h0 q
      exact b64_5 (chk_i (by omega) (ite_i (fun c => absurd c (by omega)) fun c => q))
    | succ n ih =>
      intro kd b hn h0 q
      unfold sSorts at q
      refine b64_5 (chk_i (by omega) (ite_i (fun c => b65_0 (c65_3 hs hm hf hp ho (by omega) 6 0 rfl (Int.le_refl _) (tf1 (fun c2 => ?_) fun c2 => ?_))) fun c => absurd c (by omega)))
      · rw [if_pos c2] at q; exact ih (kd + 1) _ (by omega) (by omega) q
      · rw [if_neg c2] at q; exact ih (kd + 1) _ (by omega) (by omega) q
  exact b64_0 (lp 5 0 0 rfl (Int.le_refl _) k)
theorem c108 {bits own ty : Int} (ho : 0 ≤ own ∧ own ≤ 4) (ht : 0 ≤ ty ∧ ty ≤ 4) (k : Q (sWst bits own ty 3 0 0) t D) : wp S 94 0 [some (qi bits), some (qi own), some (qi ty), none, none, none, none] [] t D Q := by
  have inn : ∀ (w did : Int), (0 ≤ w ∧ w ≤ 5) → (0 ≤ did ∧ did ≤ 2) → ∀ (n : Nat) (kd s : Int), kd + n = 5 → 0 ≤ kd → (0 ≤ s ∧ s ≤ kd) → (∀ o5 o6, wp S 94 5 [some (qi bits), some (qi own), some (qi ty), some (qi (if w < sCnt bits own ty did n kd s then sCnt bits own ty did n kd s else w)), some (qi (did + 1)), o5, o6] [] t D Q) →
      wp S 94 17 [some (qi bits), some (qi own), some (qi ty), some (qi w), some (qi did), some (qi s), some (qi kd)] [] t D Q := by
    intro w did hw hdd n
    induction n with
    | zero =>
      intro kd s hn h0 hs q
      refine b108_17 (chk_i (by omega) (ite_i (fun c => absurd c (by omega)) fun c => chk_i (by omega) (chk_i (by omega) ?_)))
      exact q _ _
    | succ n ih =>
      intro kd s hn h0 hs q
      have hq := qand_1 (qshr bits kd)
      have hd := sDoes_r kd own ty
      unfold sCnt at q
      refine b108_17 (chk_i (by omega) (ite_i (fun c => chk_i qand_R (ite_i (fun c2 => c106 (by omega) (by omega) (by omega) (chk_i (by omega) (chk_i (by omega) (ite_i (fun c3 => ?_) fun c3 => ?_)))) fun c2 => ?_)) fun c => absurd c (by omega)))
      · rw [if_pos c3, c2] at q; exact ih (kd + 1) _ (by omega) (by omega) (by omega) q
      · rw [if_neg c3] at q; exact ih (kd + 1) _ (by omega) (by omega) (by omega) q
      · rw [show qand (qshr bits kd) 1 = 0 by omega, Int.add_zero] at q
        have e : (if sDoes kd own ty = did then s else s) = s := by split <;> rfl
        rw [e] at q
        exact ih (kd + 1) _ (by omega) (by omega) (by omega) q
  have out : ∀ (n : Nat) (did w : Int) (o5 o6 : Option qV), did + n = 3 → 0 ≤ did → (0 ≤ w ∧ w ≤ 5) → Q (sWst bits own ty n did w) t D → wp S 94 5 [some (qi bits), some (qi own), some (qi ty), some (qi w), some (qi did), o5, o6] [] t D Q := by
    intro n
    induction n with
    | zero =>
      intro did w o5 o6 hn h0 hw q
      exact b108_5 (chk_i (by omega) (ite_i (fun c => absurd c (by omega)) fun c => q))
    | succ n ih =>
      intro did w o5 o6 hn h0 hw q
      have hc := sCnt_r (bits := bits) (own := own) (ty := ty) (did := did) 5 0 0
      unfold sWst at q
      refine b108_5 (chk_i (by omega) (ite_i (fun c => inn w did hw (by omega) 5 0 0 rfl (Int.le_refl _) (by omega) fun x y => ih (did + 1) _ _ _ (by omega) (by omega) ?_ q) fun c => absurd c (by omega)))
      split <;> omega
  exact b108_0 (out 3 0 0 _ _ rfl (Int.le_refl _) (by omega) k)
theorem c107 {bits own : Int} (hb : qR bits) (ho : 0 ≤ own ∧ own ≤ 4) (k : Q (sBst bits own 5 0 (-1) 6) t D) : wp S 93 0 [some (qi bits), some (qi own), none, none, none, none] [] t D Q := by
  have lp : ∀ (n : Nat) (ty b l : Int) (o5 : Option qV), ty + n = 5 → 0 ≤ ty → (0 ≤ l ∧ l ≤ 6) → Q (sBst bits own n ty b l) t D → wp S 93 8 [some (qi bits), some (qi own), some (qi b), some (qi l), some (qi ty), o5] [] t D Q := by
    intro n
    induction n with
    | zero =>
      intro ty b l o5 hn h0 hl q
      exact b107_8 (chk_i (by omega) (ite_i (fun c => absurd c (by omega)) fun c => q))
    | succ n ih =>
      intro ty b l o5 hn h0 hl q
      have hw := sWst_r (bits := bits) (own := own) (ty := ty) 3 0 0 (by omega)
      unfold sBst at q
      refine b107_8 (chk_i (by omega) (ite_i (fun c => chk_i hb (ite_i (fun c2 => ?_) fun c2 => c108 ho (by omega) (chk_i (by omega) (chk_i (by omega) (ite_i (fun c3 => ?_) fun c3 => ?_))))) fun c => absurd c (by omega)))
      · rwa [if_pos c2] at q
      · rw [if_neg c2, if_pos c3] at q; exact ih (ty + 1) _ _ _ (by omega) (by omega) (by omega) q
      · rw [if_neg c2, if_neg c3] at q; exact ih (ty + 1) _ _ _ (by omega) (by omega) hl q
  exact b107_0 (lp 5 0 (-1) 6 _ rfl (Int.le_refl _) (by omega) k)
theorem x73 {f p w : Int} (hX : XM t D G) (hs : SRl D 7 8 9 10 (G 44) (G 28 31)) (hG : RVs G) (hf : qR f) (hp : qR p) (hw : qR w) (k : Q (vPad G f p w) t D) : wp S 68 0 [some (qs 0), some (qi f), some (qi p), some (qi w), none, none] [] t D Q := by
  have h1 := hG.1.1
  obtain ⟨o0, oc, o1, -⟩ := id hX.1
  unfold vPad vTellPad at k
  refine b73_0 (c100 hX hG.1 hf hp (tf1 (fun c => c102 hw (by omega) (tf1 (fun c2 => ?_) fun c2 => ?_)) fun c => ?_))
  · have h2 := hG.1.2.1 f c.1 c.2.1
    have e5 := fun w x y => hX.2.2.2.2.2.2.1 f p w c.1 c.2.1 c.2.2.1 c.2.2.2 x y
    have h3 := hG.1.2.2.2.2.2 f p c.1 c.2.1 c.2.2.1 c.2.2.2
    rw [if_neg (fun z => z c)] at k
    refine chk_i hw (ite_i (fun c3 => chk_i o0.1 (b103_0 (chk_i o1.1 (chk_i (by omega) ?_)))) fun c3 => chk_i hw (ite_i (fun c4 => chk_i o0.1 (chk_i oc.1.1 (c5 oc (by omega) ?_))) fun c4 => chk_i o0.1 (chk_i oc.1.1 (c5 oc (by omega) ?_))))
    · rw [if_pos c3] at k
      rw [hX.2.1.1 (f * 3 + p) (by omega) (by omega), show f * 3 + p = 3 * f + p by omega]
      exact k
    · rw [if_neg c3, if_neg (by omega)] at k
      rw [e5 3 (by omega) (by omega)]
      refine b103_0 (c64 hs hG.2.2.2.1 (by omega) (by omega) (by omega) (chk_i hw (ite_i (fun c5 => ?_) fun c5 => ?_)))
      · rwa [if_pos c5] at k
      · rw [if_neg c5, if_pos (by omega)] at k
        exact c107 vSorts_R (by omega) k
    · rw [if_neg c3, if_pos (by omega)] at k
      rw [e5 w (by omega) (by omega)]
      exact k
  · rw [if_neg (fun z => z c), if_neg (by omega), if_neg (by omega), if_neg (by omega), if_neg (by omega)] at k
    exact k
  · rwa [if_pos c] at k
theorem x74 {f p w : Int} (hX : XM t D G) (hG : RVs G) (hf : qR f) (hp : qR p) (hw : qR w) (k : Q (vAs G f p w) t D) : wp S 69 0 [some (qs 0), some (qi f), some (qi p), some (qi w)] [] t D Q := by
  have h1 := hG.1.1
  obtain ⟨o0, oc, o1, -⟩ := id hX.1
  unfold vAs at k
  refine b74_0 (c100 hX hG.1 hf hp (tf1 (fun c => c102 hw (by omega) (tf1 (fun c2 => chk_i o0.1 (b103_0 (chk_i o1.1 ?_))) fun c2 => ?_)) fun c => ?_))
  · have h2 := hG.1.2.1 f c.1 c.2.1
    have h4 := hG.2.1.2.2.1 (3 * f + p) (by omega) (by omega)
    rw [if_neg (fun z => z c), if_neg (by omega)] at k
    refine chk_i (by omega) ?_
    rw [hX.2.1.1 (f * 3 + p) (by omega) (by omega), show f * 3 + p = 3 * f + p by omega]
    have yes : ∀ {A B : Prop}, B → chk (qR 1) (if (1 : Int) = 0 then A else B) := fun b => chk_i (by omega) (by rw [if_neg (by decide)]; exact b)
    have no : ∀ {A B : Prop}, A → chk (qR 0) (if (0 : Int) = 0 then A else B) := fun b => chk_i (by omega) (by rw [if_pos rfl]; exact b)
    refine b105_0 (chk_i hw (ite_i (fun c3 => yes ?_) fun c3 => chk_i (by omega) (chk_i hw (ite_i (fun c4 => yes ?_) fun c4 => chk_i (by omega) (ite_i (fun c5 => chk_i hw (ite_i (fun c6 => yes ?_) fun c6 => no ?_)) fun c5 => no ?_)))))
    · rwa [if_pos (.inl c3)] at k
    · rwa [if_pos (.inr (.inl c4.symm))] at k
    · rwa [if_pos (.inr (.inr ⟨c6, c5⟩))] at k
    · rwa [if_neg (by omega)] at k
    · rwa [if_neg (by omega)] at k
  · rwa [if_neg (fun z => z c), if_pos (by omega)] at k
  · rwa [if_pos c] at k
theorem x75 {n w : Int} (hX : XM t D G) (hG : RVs G) (hn : qR n) (hw : qR w) (k : Q (vFrame G n w) t D) : wp S 70 0 [some (qs 0), some (qi n), some (qi w), none] [] t D Q := by
  have h1 := hG.1.1
  have h13 := hG.2.1.1
  have hM := hX.2.1
  have e7 := hM.2.2.1
  obtain ⟨o0, oc, o1, o2, o3, o4, o5, o6⟩ := id hX.1
  unfold vFrame vTellFrame at k
  refine b75_0 (chk_i o0.1 ?_)
  rw [e7]
  refine c102 hn (by omega) (tf1 (fun c => c102 hw (by omega) (tf1 (fun c2 => chk_i o0.1 (c26 hX.1 ?_)) fun c2 => ?_)) fun c => ?_)
  · rw [if_neg (fun z => z c), if_neg (by omega)] at k
    have es : sAt (G 42) n = 14 + 8 * (G 42 13 - 1 - n) := rfl
    rw [e7]
    refine chk_i hw (ite_i (fun c3 => chk_i o0.1 (chk_i o3.1 (chk_i (by omega) ?_))) fun c3 => chk_i hw (ite_i (fun c4 => chk_i o0.1 (chk_i o4.1 (chk_i (by omega) ?_))) fun c4 => chk_i hw (ite_i (fun c5 => chk_i o0.1 (chk_i o5.1 (chk_i (by omega) ?_))) fun c5 => chk_i o0.1 ?_)))
    · rw [if_pos (by omega), es, c3, Int.add_zero] at k
      rw [hM.2.2.2.1 _ (by omega) (by omega)]; exact k
    · rw [if_pos (by omega), es, c4] at k
      rw [hM.2.2.2.2.1 _ (by omega) (by omega)]; exact k
    · rw [if_pos c5, es] at k
      rw [show (G 42 13 - 1 - n) * 6 + w - 2 = (G 42 13 - 1 - n) * 6 + (w - 2) by omega, hM.2.2.2.2.2.1 _ _ (by omega) (by omega) (by omega) (by omega), show 14 + 8 * (G 42 13 - 1 - n) + 2 + (w - 2) = 14 + 8 * (G 42 13 - 1 - n) + w by omega]
      exact k
    · rw [if_neg c5] at k
      rw [show w - 2 - 6 = w - 8 by omega]
      exact c33 hX.1 hM hX.2.2 hG.1 hG.2.1 (by omega) (by omega) k
  · rwa [if_neg (fun z => z c), if_pos (by omega)] at k
  · rwa [if_pos c] at k
theorem x76 {r : Int} (hX : XM t D G) (hr : qR r) (k : Q (vReg G r) t D) : wp S 71 0 [some (qs 0), some (qi r)] [] t D Q := by
  obtain ⟨o0, oc, o1, o2, -⟩ := id hX.1
  unfold vReg at k
  refine b76_0 (c102 hr (by omega) (tf1 (fun c => chk_i o0.1 (chk_i o2.1 (chk_i (by omega) ?_))) fun c => ?_))
  · rw [if_neg (by omega)] at k
    rw [hX.2.1.2.1 r (by omega) (by omega)]; exact k
  · rwa [if_pos (by omega)] at k
theorem x84 {ty w : Int} (hX : XM t D G) (hG : RVs G) (ht : qR ty) (hw : qR w) (k : Q (vSearch G ty w) t D) : wp S 78 0 [some (qs 0), some (qi ty), some (qi w), none] [] t D Q := by
  have hr := sCat_r (G 38) (G 40) (G 42) ty
  have h13 := hG.2.1.1
  obtain ⟨o0, -⟩ := id hX.1
  unfold vSearch vSea at k
  refine b84_0 (c102 ht (by omega) (tf1 (fun c => c102 hw (by omega) (tf1 (fun c2 => c98 hX hG.1 (chk_i ?_ (ite_i (fun c3 => ?_) fun c3 => chk_i o0.1 (c34 hX.1 hX.2.1 hX.2.2 hG.1 hG.2.1 (by omega) ?_)))) fun c2 => ?_)) fun c => ?_))
  · split <;> omega
  · rw [if_neg (by omega), if_neg (by omega), if_pos (by by_cases h : G 28 14 = 0; exact h; rw [if_neg h] at c3; omega)] at k; exact k
  · rw [if_neg (by omega), if_neg (by omega), if_neg (fun h => c3 (if_pos h))] at k
    unfold sCat3
    by_cases c4 : (sCat (G 38) (G 40) (G 42) ty).1 = -1
    · rw [if_pos c4]
      rw [if_pos c4] at k
      exact chk_i (by omega) (by rw [if_pos rfl]; exact k)
    · have hcp := sCat_cp hG.2.1 ty c4
      rw [if_neg c4]
      rw [if_neg c4] at k
      refine chk_i (by omega) (ite_i (fun h => absurd h (by omega)) fun _ => chk_i hw (ite_i (fun c5 => chk_i o0.1 (c36 hX.1 hX.2.1 hX.2.2 hG.1 hG.2.1 (by omega) c4 ?_)) fun c5 => chk_i hw (ite_i (fun c6 => chk_i (by omega) ?_) fun c6 => chk_i (by omega) ?_)))
      · rwa [if_neg (by omega), if_neg (by omega)] at k
      · rw [if_pos c6] at k
        rw [show (3 * (sCat (G 38) (G 40) (G 42) ty).1 + (sCat (G 38) (G 40) (G 42) ty).2.1) / 3 = (sCat (G 38) (G 40) (G 42) ty).1 by omega]; exact k
      · rw [if_neg (by omega), if_pos (by omega)] at k
        rw [show (3 * (sCat (G 38) (G 40) (G 42) ty).1 + (sCat (G 38) (G 40) (G 42) ty).2.1) % 3 = (sCat (G 38) (G 40) (G 42) ty).2.1 by omega]; exact k
  · rwa [if_neg (by omega), if_pos (by omega)] at k
  · rwa [if_pos (by omega)] at k
theorem x85 (hX : XM t D G) (hG : RVs G) (k : Q (vLoose G) t D) : wp S 79 0 [some (qs 0), none, none] [] t D Q := by
  have h13 := hG.2.1.1
  obtain ⟨o0, -⟩ := id hX.1
  have lp : ∀ (n : Nat) (ty b : Int), ty + n = 5 → 0 ≤ ty → Q (sLo G n ty b) t D → wp S 79 14 [some (qs 0), some (qi b), some (qi ty)] [] t D Q := by
    intro n
    induction n with
    | zero =>
      intro ty b hn h0 q
      exact b85_14 (chk_i (by omega) (ite_i (fun c => absurd c (by omega)) fun c => q))
    | succ n ih =>
      intro ty b hn h0 q
      have hr := sCat_r (G 38) (G 40) (G 42) ty
      unfold sLo at q
      refine b85_14 (chk_i (by omega) (ite_i (fun c => chk_i o0.1 (c34 hX.1 hX.2.1 hX.2.2 hG.1 hG.2.1 (by omega) ?_)) fun c => absurd c (by omega)))
      unfold sCat3
      by_cases c4 : (sCat (G 38) (G 40) (G 42) ty).1 = -1
      · rw [if_pos c4]
        rw [if_pos c4] at q
        exact chk_i (by omega) (by rw [if_pos rfl]; exact ih (ty + 1) _ (by omega) (by omega) q)
      · have hcp := sCat_cp hG.2.1 ty c4
        rw [if_neg c4]
        rw [if_neg c4] at q
        exact chk_i (by omega) (ite_i (fun h => absurd h (by omega)) fun _ => ih (ty + 1) _ (by omega) (by omega) q)
  unfold vLoose at k
  refine b85_0 (c98 hX hG.1 (chk_i ?_ (ite_i (fun c3 => ?_) fun c3 => ?_)))
  · split <;> omega
  · rw [if_pos (by by_cases h : G 28 14 = 0; exact h; rw [if_neg h] at c3; omega)] at k; exact k
  · rw [if_neg (fun h => c3 (if_pos h))] at k
    exact lp 5 0 0 rfl (Int.le_refl _) k
theorem x86 {i : Int} (hX : XM t D G) (hG : RVs G) (hi : qR i) (k : Q (vFin G i) t D) : wp S 80 0 [some (qs 0), some (qi i)] [] t D Q := by
  obtain ⟨o0, oc, o1, o2, o3, o4, o5, o6⟩ := id hX.1
  have h78 := hG.2.1.2.2.2.1
  have e8 := hX.2.1.2.2.2.2.2.2.1
  unfold vFin at k
  refine b86_0 (chk_i hi (ite_i (fun c => chk_i o0.1 ?_) fun c => chk_i o0.1 ?_))
  · rw [if_pos c] at k; rw [e8]; exact k
  · rw [if_neg c] at k
    rw [e8]
    refine c102 hi (by omega) (tf1 (fun c2 => chk_i o0.1 (chk_i o6.1 (chk_i (by omega) ?_))) fun c2 => ?_)
    · rw [if_neg (fun z => z c2)] at k
      rw [hX.2.1.2.2.2.2.2.2.2 i c2.1 (by omega)]; exact k
    · rwa [if_pos c2] at k
theorem x87 {f g : Int} (hX : XM t D G) (hG : RVs G) (hf : qR f) (hg : qR g) (k : Q (vSame G f g) t D) : wp S 81 0 [some (qs 0), some (qi f), some (qi g), none, none] [] t D Q := by
  obtain ⟨o0, oc, -⟩ := id hX.1
  have h1 := hG.1.1
  unfold vSame at k
  refine b87_0 (c99 hX hG.1 hf (tf1 (fun c => c99 hX hG.1 hg (tf1 (fun c2 => ?_) fun c2 => ?_)) fun c => ?_))
  · rw [if_neg (fun z => z c), if_neg (fun z => z c2)] at k
    have inn : ∀ (b : Int), (0 ≤ b ∧ b < 10) → ∀ (n : Nat) (r : Int), r + n = 4 → 0 ≤ r → (∀ o4, Q (sSame (G 34) f g (36 - 4 * b).toNat (4 * b + 4)) t D → wp S 81 21 [some (qs 0), some (qi f), some (qi g), some (qi (b + 1)), o4] [] t D Q) → Q (sSame (G 34) f g (40 - 4 * b - r).toNat (4 * b + r)) t D → wp S 81 30 [some (qs 0), some (qi f), some (qi g), some (qi b), some (qi r)] [] t D Q := by
      intro b hb n
      induction n with
      | zero =>
        intro r hn h0 q1 q2
        obtain rfl : r = 4 := by omega
        rw [show 40 - 4 * b - 4 = 36 - 4 * b by omega] at q2
        exact b87_30 (chk_i (by omega) (ite_i (fun c => absurd c (by omega)) fun _ => q1 _ q2))
      | succ n ih =>
        intro r hn h0 q1 q2
        have e1 := hX.2.2.2.1 f b r c.1 c.2 hb.1 hb.2 h0 (by omega)
        have e2 := hX.2.2.2.1 g b r c2.1 c2.2 hb.1 hb.2 h0 (by omega)
        have r1 := hG.1.2.2.2.1 (40 * f + 4 * b + r) (by omega) (by omega)
        have r2 := hG.1.2.2.2.1 (40 * g + 4 * b + r) (by omega) (by omega)
        rw [show (40 - 4 * b - r).toNat = (40 - 4 * b - (r + 1)).toNat + 1 by omega] at q2
        have es : sSame (G 34) f g ((40 - 4 * b - (r + 1)).toNat + 1) (4 * b + r) = if G 34 (40 * f + (4 * b + r)) = G 34 (40 * g + (4 * b + r)) then sSame (G 34) f g (40 - 4 * b - (r + 1)).toNat (4 * b + r + 1) else 0 := rfl
        rw [es, show 40 * f + (4 * b + r) = 40 * f + 4 * b + r by omega, show 40 * g + (4 * b + r) = 40 * g + 4 * b + r by omega] at q2
        refine b87_30 (chk_i (by omega) (ite_i (fun _ => chk_i o0.1 (chk_i oc.1.1 (c1 oc (by omega) (chk_i o0.1 (chk_i oc.1.1 (c1 oc (by omega) ?_)))))) fun h => absurd (by omega) h))
        rw [e1, e2]
        refine chk_i (by omega) (chk_i (by omega) (ite_i (fun c5 => ?_) fun c5 => ?_))
        · rw [if_pos c5] at q2
          rw [show 4 * b + r + 1 = 4 * b + (r + 1) by omega] at q2
          exact ih (r + 1) (by omega) (by omega) q1 q2
        · rwa [if_neg c5] at q2
    have out : ∀ (n : Nat) (b : Int) (o4 : Option qV), b + n = 10 → 0 ≤ b → Q (sSame (G 34) f g (40 - 4 * b).toNat (4 * b)) t D → wp S 81 21 [some (qs 0), some (qi f), some (qi g), some (qi b), o4] [] t D Q := by
      intro n
      induction n with
      | zero =>
        intro b o4 hn h0 q
        obtain rfl : b = 10 := by omega
        exact b87_21 (chk_i (by omega) (ite_i (fun c => absurd c (by omega)) fun _ => q))
      | succ n ih =>
        intro b o4 hn h0 q
        refine b87_21 (chk_i (by omega) (ite_i (fun _ => inn b (by omega) 4 0 rfl (Int.le_refl _) (fun o q' => ih (b + 1) o (by omega) (by omega) ?_) ?_) fun h => absurd (by omega) h))
        · rw [show 40 - 4 * (b + 1) = 36 - 4 * b by omega, show 4 * (b + 1) = 4 * b + 4 by omega]; exact q'
        · rw [Int.sub_zero, Int.add_zero]; exact q
    exact out 10 0 none rfl (Int.le_refl _) k
  · rwa [if_neg (fun z => z c), if_pos c2] at k
  · rwa [if_pos c] at k
end KE
