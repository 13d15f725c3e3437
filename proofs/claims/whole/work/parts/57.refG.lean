/-! ## the reference's calls that tell -/
def vTellRow (D : qD) (f b w : Int) : Int := if w = 4 then D 35 (10 * f + b) else if w = 5 then D 36 (10 * f + b) else D 34 (40 * f + 4 * b + w)
def vRow (D : qD) (f b w : Int) : Int := if ¬ (0 ≤ f ∧ f < D 28 14) then -101 else if ¬ (0 ≤ b ∧ b ≤ 9) then -101 else if ¬ (0 ≤ w ∧ w ≤ 5) then -102 else vTellRow D f b w
def sCan (sg : Int → Int) (many f p own kd : Int) : Nat → Int → Bool
  | 0, _ => true
  | k + 1, i => if i < many then (if sg (4 * i) = f ∧ sg (4 * i + 1) = p ∧ ¬ sDoes kd own (sg (4 * i + 2)) = sg (4 * i + 3) then false else sCan sg many f p own kd k (i + 1)) else true
def sSorts (sg : Int → Int) (many f p own : Int) : Nat → Int → Int → Int
  | 0, _, b => b
  | k + 1, kd, b => sSorts sg many f p own k (kd + 1) (if sCan sg many f p own kd 6 0 = true then qor b (qshl 1 kd) else b)
def sCnt (bits own ty did : Int) : Nat → Int → Int → Int
  | 0, _, s => s
  | k + 1, kd, s => sCnt bits own ty did k (kd + 1) (if sDoes kd own ty = did then s + qand (qshr bits kd) 1 else s)
def sWst (bits own ty : Int) : Nat → Int → Int → Int
  | 0, _, w => w
  | k + 1, did, w => sWst bits own ty k (did + 1) (if w < sCnt bits own ty did 5 0 0 then sCnt bits own ty did 5 0 0 else w)
def sBst (bits own : Int) : Nat → Int → Int → Int → Int
  | 0, _, b, _ => b
  | k + 1, ty, b, l => if bits = 0 then b else if sWst bits own ty 3 0 0 < l then sBst bits own k (ty + 1) ty (sWst bits own ty 3 0 0) else sBst bits own k (ty + 1) b l
def vSorts (D : qD) (f p : Int) : Int := sSorts (D 44) (D 28 31) f p (D 40 (15 * f + 5 * p + 3)) 5 0 0
def vAsk (D : qD) (f p : Int) : Int := sBst (vSorts D f p) (D 40 (15 * f + 5 * p + 3)) 5 0 (-1) 6
def vTellPad (D : qD) (f p w : Int) : Int := if w = 0 then D 42 (3 * f + p) else if 1 ≤ w ∧ w ≤ 4 then D 40 (15 * f + 5 * p + w) else if w = 5 then vSorts D f p else if w = 6 then vAsk D f p else -102
def vPad (D : qD) (f p w : Int) : Int := if ¬ (0 ≤ f ∧ f < D 28 14 ∧ 0 ≤ p ∧ p < D 38 f) then -101 else vTellPad D f p w
def vAs (D : qD) (f p kd : Int) : Int := if ¬ (0 ≤ f ∧ f < D 28 14 ∧ 0 ≤ p ∧ p < D 38 f) then -101 else if ¬ (0 ≤ kd ∧ kd ≤ 4) then -102 else
  if kd = 0 ∨ kd = D 42 (3 * f + p) ∨ (kd = 2 ∧ D 42 (3 * f + p) = 4) then p else -1
def vTellFrame (D : qD) (n w : Int) : Int := if w < 8 then D 42 (sAt (D 42) n + w) else sCl (D 34) (D 42) (w - 8) (n + 1).toNat 0 (D 42 (9 + (w - 8)))
def vFrame (D : qD) (n w : Int) : Int := if ¬ (0 ≤ n ∧ n < D 42 13) then -101 else if ¬ (0 ≤ w ∧ w ≤ 11) then -102 else vTellFrame D n w
def vReg (D : qD) (r : Int) : Int := if ¬ (0 ≤ r ∧ r ≤ 3) then -101 else D 42 (9 + r)
def sSame (sv : Int → Int) (f g : Int) : Nat → Int → Int
  | 0, _ => 1
  | k + 1, i => if sv (40 * f + i) = sv (40 * g + i) then sSame sv f g k (i + 1) else 0
def vSame (D : qD) (f g : Int) : Int := if ¬ (0 ≤ f ∧ f < D 28 14) then -101 else if ¬ (0 ≤ g ∧ g < D 28 14) then -101 else sSame (D 34) f g 40 0
def vFin (D : qD) (i : Int) : Int := if i = -1 then D 42 78 else if ¬ (0 ≤ i ∧ i < D 42 78) then -101 else D 42 (79 + i)
def pSee (D : qD) (f p ty did : Int) : Int × qD := if ¬ (0 ≤ f ∧ f < D 28 14 ∧ 0 ≤ p ∧ p < D 38 f) then (-101, D) else if ¬ (0 ≤ ty ∧ ty ≤ 4) then (-102, D) else if ¬ (0 ≤ did ∧ did ≤ 2) then (-102, D) else if D 28 31 = 6 then (-104, D)
  else (D 28 31 + 1, upr (upr D 44 (ui (ui (ui (ui (D 44) (4 * D 28 31) f) (4 * D 28 31 + 1) p) (4 * D 28 31 + 2) ty) (4 * D 28 31 + 3) did)) 28 (ui (D 28) 31 (D 28 31 + 1)))
def pForget (D : qD) : Int × qD := (D 28 31, upr D 28 (ui (D 28) 31 0))
def sPads (pm : Int → Int) (nf : Int) : Nat → Int → Int → Int
  | 0, _, s => s
  | k + 1, f, s => if f < nf then sPads pm nf k (f + 1) (s + pm f) else s
def sAny (sv : Int → Int) (i : Int) : Nat → Int → Bool
  | 0, _ => false
  | k + 1, r => if sv (4 * i + r) = -1 then sAny sv i k (r + 1) else true
def sSvd (sv : Int → Int) (nf : Int) : Nat → Int → Int → Int
  | 0, _, s => s
  | k + 1, i, s => if i < 10 * nf then sSvd sv nf k (i + 1) (s + if sAny sv i 4 0 = true then 1 else 0) else s
def vCount (D : qD) (w : Int) : Int := if w = 0 then D 28 14 else if w = 1 then sPads (D 38) (D 28 14) 3 0 0 else if w = 2 then D 42 13 else if w = 3 then D 28 27 else if w = 4 then sSvd (D 34) (D 28 14) 30 0 0 else if w = 5 then D 28 31 else if w = 6 then D 28 1 else if w = 7 then D 28 15 else -102
theorem i32R (z : Int32) : qR z.toInt := ⟨Int32.le_toInt z, Int32.toInt_lt z⟩
theorem qor_R {x y : Int} : qR (qor x y) := i32R _
theorem qand_R {x y : Int} : qR (qand x y) := i32R _
theorem qor_0 {x : Int} (h : qR x) : qor x 0 = x := by
  unfold qor
  rw [show Int32.ofInt 0 = 0 from rfl, Int32.or_zero, i32_int h]
theorem qand_1 (x : Int) : qand x 1 = 0 ∨ qand x 1 = 1 := by
  unfold qand
  have h : ∀ z : Int32, (z &&& 1).toInt = 0 ∨ (z &&& 1).toInt = 1 := fun z => by
    have e : z &&& 1 = 0 ∨ z &&& 1 = 1 := by
      have h1 : (z &&& 1).toBitVec = z.toBitVec &&& 1#32 := rfl
      have h2 : (z.toBitVec &&& 1#32).toNat = z.toBitVec.toNat % 2 := by
        rw [BitVec.toNat_and]; exact Nat.and_one_is_mod _
      rcases Nat.mod_two_eq_zero_or_one z.toBitVec.toNat with h3 | h3
      · left
        rw [← Int32.toBitVec_inj, h1]
        apply BitVec.eq_of_toNat_eq
        rw [h2, h3]; rfl
      · right
        rw [← Int32.toBitVec_inj, h1]
        apply BitVec.eq_of_toNat_eq
        rw [h2, h3]; rfl
    rcases e with e | e <;> rw [e]
    · left; rfl
    · right; rfl
  exact h (Int32.ofInt x)
section RG
variable {S : (Nat → Int32) × Nat} {t : qT} {D : qD} {Q : Int → qT → qD → Prop}
theorem c156 {f b w : Int} (hC : CVd D) (hf : 0 ≤ f ∧ f < D 28 14) (hb : 0 ≤ b ∧ b ≤ 9) (hw : 0 ≤ w ∧ w ≤ 5) (k : Q (vTellRow D f b w) t D) : wp S 156 0 [some (qs 28), some (qi f), some (qi b), some (qi w)] [] t D Q := by
  have h1 := hC.1
  unfold vTellRow at k
  refine b156_0 (chk_i (by omega) (ite_i (fun c => chk_i (by omega) ?_) fun c => ite_i (fun c2 => chk_i (by omega) ?_) fun c2 => chk_i (by omega) ?_))
  · rwa [if_pos c] at k
  · rwa [if_neg c, if_pos c2] at k
  · rwa [if_neg c, if_neg c2] at k
theorem c157 {f b w : Int} (hf : qR f) (hb : qR b) (hw : qR w) (h : RVs D) (k : Q (vRow D f b w) t D) : wp S 157 0 [some (qs 28), some (qi f), some (qi b), some (qi w)] [] t D Q := by
  have hC := h.1
  unfold vRow at k
  refine b157_0 (c129 hf hC.1 (chk_i tfR (tf (fun c => chk_i hb (c110 hb (by omega) (by omega) (chk_i tfR (tf (fun c2 => chk_i hw (c110 hw (by omega) (by omega) (chk_i tfR (tf (fun c3 => c156 hC c c2 c3 ?_) fun c3 => ?_)))) fun c2 => ?_)))) fun c => ?_)))
  · rwa [if_neg (fun z => z c), if_neg (fun z => z c2), if_neg (fun z => z c3)] at k
  · rwa [if_neg (fun z => z c), if_neg (fun z => z c2), if_pos c3] at k
  · rwa [if_neg (fun z => z c), if_pos c2] at k
  · rwa [if_pos c] at k
theorem c168_34 {f p own bits kd : Int} (hf : 0 ≤ f ∧ f < 3) (hp : 0 ≤ p ∧ p < 3) (ho : 0 ≤ own ∧ own ≤ 4) (hk : 0 ≤ kd ∧ kd ≤ 4) (hm : 0 ≤ D 28 31 ∧ D 28 31 ≤ 6) (hsg : ∀ i, 0 ≤ i → i < 24 → 0 ≤ D 44 i ∧ D 44 i ≤ 4) :
    ∀ (m : Nat) (i is : Int) (o8 : Option qV), i + m = 6 → 0 ≤ i → (is = 0 ∨ is = 1) →
    (∀ o6 o7 o8, wp S 168 22 [some (qs 28), some (qi f), some (qi p), some (qi own), some (qi (if is = 1 ∧ sCan (D 44) (D 28 31) f p own kd m i = true then qor bits (qshl 1 kd) else qor bits 0)), some (qi (kd + 1)), o6, o7, o8] [] t D Q) →
    wp S 168 34 [some (qs 28), some (qi f), some (qi p), some (qi own), some (qi bits), some (qi kd), some (qi is), some (qi (4 * i)), o8] [] t D Q := by
  intro m
  induction m with
  | zero =>
    intro i is o8 hi h0 his q
    refine b168_34 (chk_i (by omega) (chk_i (by omega) (ite_i (fun c => absurd c (by omega)) fun c => chk_i (by omega) (ite_i (fun c2 => ?_) fun c2 => ?_))))
    · rw [if_neg (by omega)] at q; exact q _ _ _
    · rw [if_pos ⟨by omega, rfl⟩] at q; exact q _ _ _
  | succ m ih =>
    intro i is o8 hi h0 his q
    have es : sCan (D 44) (D 28 31) f p own kd (m + 1) i = if i < D 28 31 then (if D 44 (4 * i) = f ∧ D 44 (4 * i + 1) = p ∧ ¬ sDoes kd own (D 44 (4 * i + 2)) = D 44 (4 * i + 3) then false else sCan (D 44) (D 28 31) f p own kd m (i + 1)) else true := rfl
    have ih0 := fun o (q : ∀ o6 o7 o8, wp S 168 22 [some (qs 28), some (qi f), some (qi p), some (qi own), some (qi (qor bits 0)), some (qi (kd + 1)), o6, o7, o8] [] t D Q) => ih (i + 1) 0 o (by omega) (by omega) (.inl rfl) (by rw [if_neg (by omega)]; exact q)
    have ih1 := fun o => ih (i + 1) 1 o (by omega) (by omega) (.inr rfl)
    rw [show 4 * (i + 1) = 4 * i + 4 by omega] at ih0 ih1
    refine b168_34 (chk_i (by omega) (chk_i (by omega) (ite_i (fun c => ?_) fun c => ?_)))
    · rw [if_pos (show i < D 28 31 by omega)] at es
      have g0 := hsg (4 * i) (by omega) (by omega)
      have g1 := hsg (4 * i + 1) (by omega) (by omega)
      have g2 := hsg (4 * i + 2) (by omega) (by omega)
      have g3 := hsg (4 * i + 3) (by omega) (by omega)
      have hd := sDoes_r kd own (D 44 (4 * i + 2))
      refine chk_i (by omega) (chk_i (by omega) (chk_i (by omega) (ite_i (fun c2 => chk_i (by omega) (chk_i (by omega) (chk_i (by omega) (ite_i (fun c3 => ?_) fun c3 => ?_)))) fun c2 => ?_)))
      · refine chk_i (by omega) (ite_i (fun c4 => ?_) fun c4 => chk_i (by omega) (c144 (by omega) (by omega) (by omega) (chk_i (by omega) (chk_i (by omega) (chk_i (by omega) (ite_i (fun c5 => ?_) fun c5 => ?_))))))
        · rw [if_neg (by omega)] at q; exact ih0 _ q
        · rw [if_neg (fun z => z.2.2 c5)] at es
          rw [es] at q
          refine ih1 _ ?_
          rw [show is = 1 by omega] at q
          exact q
        · rw [if_pos ⟨c2, c3, c5⟩] at es
          rw [es, if_neg (fun z => Bool.noConfusion z.2)] at q
          exact ih0 _ q
      · rw [if_neg (fun z => c3 z.2.1)] at es
        rw [es] at q
        refine chk_i (by omega) (ite_i (fun c4 => ?_) fun c4 => ?_)
        · rw [if_neg (by omega)] at q; exact ih0 _ q
        · rw [show is = 1 by omega] at q; exact ih1 _ q
      · rw [if_neg (fun z => c2 z.1)] at es
        rw [es] at q
        refine chk_i (by omega) (ite_i (fun c4 => ?_) fun c4 => ?_)
        · rw [if_neg (by omega)] at q; exact ih0 _ q
        · rw [show is = 1 by omega] at q; exact ih1 _ q
    · rw [if_neg (show ¬ i < D 28 31 by omega)] at es
      refine chk_i (by omega) (ite_i (fun c2 => ?_) fun c2 => ?_)
      · rw [if_neg (by omega)] at q; exact q _ _ _
      · rw [if_pos ⟨by omega, es⟩] at q; exact q _ _ _
theorem c168_22 {f p own : Int} (hf : 0 ≤ f ∧ f < 3) (hp : 0 ≤ p ∧ p < 3) (ho : 0 ≤ own ∧ own ≤ 4) (hm : 0 ≤ D 28 31 ∧ D 28 31 ≤ 6) (hsg : ∀ i, 0 ≤ i → i < 24 → 0 ≤ D 44 i ∧ D 44 i ≤ 4) :
    ∀ (m : Nat) (kd bits : Int) (o6 o7 o8 : Option qV), kd + m = 5 → 0 ≤ kd → qR bits → Q (sSorts (D 44) (D 28 31) f p own m kd bits) t D →
    wp S 168 22 [some (qs 28), some (qi f), some (qi p), some (qi own), some (qi bits), some (qi kd), o6, o7, o8] [] t D Q := by
  intro m
  induction m with
  | zero =>
    intro kd bits o6 o7 o8 hk h0 hb q
    exact b168_22 (chk_i (by omega) (ite_i (fun c => absurd c (by omega)) fun c => q))
  | succ m ih =>
    intro kd bits o6 o7 o8 hk h0 hb q
    refine b168_22 (chk_i (by omega) (ite_i (fun c => ?_) fun c => absurd c (by omega)))
    have := c168_34 (S := S) (t := t) (D := D) (Q := Q) (f := f) (p := p) (own := own) (bits := bits) (kd := kd) hf hp ho (by omega) hm hsg 6 0 1 o8 rfl (Int.le_refl _) (.inr rfl) fun x y z => ?_
    · exact this
    · unfold sSorts at q
      rw [qor_0 hb]
      by_cases c2 : sCan (D 44) (D 28 31) f p own kd 6 0 = true
      · rw [if_pos ⟨rfl, c2⟩]
        rw [if_pos c2] at q
        exact ih (kd + 1) _ _ _ _ (by omega) (by omega) qor_R q
      · rw [if_neg (fun z => c2 z.2)]
        rw [if_neg c2] at q
        exact ih (kd + 1) _ _ _ _ (by omega) (by omega) hb q
theorem sSorts_R {sg : Int → Int} {many f p own : Int} : ∀ (m : Nat) (kd b : Int), qR b → qR (sSorts sg many f p own m kd b) := by
  intro m
  induction m with
  | zero => intro kd b h; exact h
  | succ m ih =>
    intro kd b h
    unfold sSorts
    refine ih _ _ ?_
    split
    · exact qor_R
    · exact h
theorem c168 {f p : Int} (h : RVs D) (hf : 0 ≤ f ∧ f < D 28 14) (hp : 0 ≤ p ∧ p < D 38 f) (k : Q (vSorts D f p) t D) : wp S 168 0 [some (qs 28), some (qi f), some (qi p), none, none, none, none, none, none] [] t D Q := by
  have h1 := h.1.1
  have h2 := h.1.2.1 f hf.1 hf.2
  have h3 := h.1.2.2.2.2.2 f p hf.1 hf.2 hp.1 hp.2
  refine b168_0 (chk_i (by omega) ?_)
  exact c168_22 (by omega) (by omega) (by omega) h.2.2.2.1 h.2.2.2.2.2.2.1 5 0 0 _ _ _ rfl (Int.le_refl _) (by omega) k
theorem sCnt_r {bits own ty did : Int} : ∀ (m : Nat) (kd s : Int), s ≤ sCnt bits own ty did m kd s ∧ sCnt bits own ty did m kd s ≤ s + m := by
  intro m
  induction m with
  | zero => intro kd s; exact ⟨Int.le_refl _, by show s ≤ s + (0 : Nat); omega⟩
  | succ m ih =>
    intro kd s
    unfold sCnt
    have h1 := qand_1 (qshr bits kd)
    split
    · have := ih (kd + 1) (s + qand (qshr bits kd) 1); omega
    · have := ih (kd + 1) s; omega
theorem sWst_r {bits own ty : Int} : ∀ (m : Nat) (did w : Int), (0 ≤ w ∧ w ≤ 5) → 0 ≤ sWst bits own ty m did w ∧ sWst bits own ty m did w ≤ 5 := by
  intro m
  induction m with
  | zero => intro did w h; exact h
  | succ m ih =>
    intro did w h
    unfold sWst
    refine ih _ _ ?_
    have := sCnt_r (bits := bits) (own := own) (ty := ty) (did := did) 5 0 0
    split <;> omega
theorem sBst_r {bits own : Int} : ∀ (m : Nat) (ty b l : Int), (-1 ≤ b ∧ b < 5) → (0 ≤ ty ∧ ty + m ≤ 5) → -1 ≤ sBst bits own m ty b l ∧ sBst bits own m ty b l < 5 := by
  intro m
  induction m with
  | zero => intro ty b l h _; exact h
  | succ m ih =>
    intro ty b l h h2
    unfold sBst
    split
    · exact h
    · split
      · exact ih _ _ _ (by omega) (by omega)
      · exact ih _ _ _ h (by omega)
theorem c169_63 {f p own bits best least ty w did : Int} (ho : 0 ≤ own ∧ own ≤ 4) (ht : 0 ≤ ty ∧ ty ≤ 4) (hw : 0 ≤ w ∧ w ≤ 5) (hd : 0 ≤ did ∧ did ≤ 2) :
    ∀ (m : Nat) (kd s : Int), kd + m = 5 → 0 ≤ kd → (0 ≤ s ∧ s ≤ kd) →
    (∀ o10 o11, wp S 169 51 [some (qs 28), some (qi f), some (qi p), some (qi own), some (qi bits), some (qi best), some (qi least), some (qi ty), some (qi (if w < sCnt bits own ty did m kd s then sCnt bits own ty did m kd s else w)), some (qi (did + 1)), o10, o11] [] t D Q) →
    wp S 169 63 [some (qs 28), some (qi f), some (qi p), some (qi own), some (qi bits), some (qi best), some (qi least), some (qi ty), some (qi w), some (qi did), some (qi s), some (qi kd)] [] t D Q := by
  intro m
  induction m with
  | zero =>
    intro kd s hk h0 hs q
    refine b169_63 (chk_i (by omega) (ite_i (fun c => absurd c (by omega)) fun c => chk_i (by omega) (chk_i (by omega) (ite_i (fun c2 => ?_) fun c2 => ?_))))
    · have e : sCnt bits own ty did 0 kd s = s := rfl
      rw [e, if_pos c2] at q
      exact q _ _
    · have e : sCnt bits own ty did 0 kd s = s := rfl
      rw [e, if_neg c2] at q
      exact q _ _
  | succ m ih =>
    intro kd s hk h0 hs q
    have hdd := sDoes_r kd own ty
    have h1 := qand_1 (qshr bits kd)
    unfold sCnt at q
    refine b169_63 (chk_i (by omega) (ite_i (fun c => c144 (by omega) (by omega) (by omega) (chk_i (by omega) (chk_i (by omega) (ite_i (fun c2 => ?_) fun c2 => ?_)))) fun c => absurd c (by omega)))
    · rw [if_pos c2] at q
      exact ih (kd + 1) _ (by omega) (by omega) (by omega) q
    · rw [if_neg c2] at q
      rw [Int.add_zero]
      exact ih (kd + 1) _ (by omega) (by omega) (by omega) q
theorem c169_51 {f p own bits best least ty : Int} (ho : 0 ≤ own ∧ own ≤ 4) (ht : 0 ≤ ty ∧ ty ≤ 4) (hl : 0 ≤ least ∧ least ≤ 6) :
    ∀ (m : Nat) (did w : Int) (o10 o11 : Option qV), did + m = 3 → 0 ≤ did → (0 ≤ w ∧ w ≤ 5) →
    (∀ o8 o9 o10 o11, wp S 169 34 [some (qs 28), some (qi f), some (qi p), some (qi own), some (qi bits), some (qi (if sWst bits own ty m did w < least then ty else best)), some (qi (if sWst bits own ty m did w < least then sWst bits own ty m did w else least)), some (qi (ty + 1)), o8, o9, o10, o11] [] t D Q) →
    wp S 169 51 [some (qs 28), some (qi f), some (qi p), some (qi own), some (qi bits), some (qi best), some (qi least), some (qi ty), some (qi w), some (qi did), o10, o11] [] t D Q := by
  intro m
  induction m with
  | zero =>
    intro did w o10 o11 hm h0 hw q
    have e : sWst bits own ty 0 did w = w := rfl
    rw [e] at q
    refine b169_51 (chk_i (by omega) (ite_i (fun c => absurd c (by omega)) fun c => chk_i (by omega) (chk_i (by omega) (ite_i (fun c2 => chk_i (by omega) (chk_i (by omega) (ite_i (fun c3 => ?_) fun c3 => absurd c2 c3))) fun c2 => chk_i (by omega) (chk_i (by omega) (ite_i (fun c3 => absurd c3 c2) fun c3 => ?_))))))
    · rw [if_pos c2, if_pos c2] at q; exact q _ _ _ _
    · rw [if_neg c2, if_neg c2] at q; exact q _ _ _ _
  | succ m ih =>
    intro did w o10 o11 hm h0 hw q
    have hc := sCnt_r (bits := bits) (own := own) (ty := ty) (did := did) 5 0 0
    refine b169_51 (chk_i (by omega) (ite_i (fun c => ?_) fun c => absurd c (by omega)))
    refine c169_63 ho ht hw (by omega) 5 0 0 rfl (Int.le_refl _) (by omega) fun x y => ?_
    unfold sWst at q
    refine ih (did + 1) _ _ _ (by omega) (by omega) ?_ q
    split <;> omega
theorem c169_34 {f p own bits : Int} (ho : 0 ≤ own ∧ own ≤ 4) (hb : qR bits) :
    ∀ (m : Nat) (ty best least : Int) (o8 o9 o10 o11 : Option qV), ty + m = 5 → 0 ≤ ty → (0 ≤ least ∧ least ≤ 6) → Q (sBst bits own m ty best least) t D →
    wp S 169 34 [some (qs 28), some (qi f), some (qi p), some (qi own), some (qi bits), some (qi best), some (qi least), some (qi ty), o8, o9, o10, o11] [] t D Q := by
  intro m
  induction m with
  | zero =>
    intro ty best least o8 o9 o10 o11 hm h0 hl q
    exact b169_34 (chk_i (by omega) (ite_i (fun c => absurd c (by omega)) fun c => q))
  | succ m ih =>
    intro ty best least o8 o9 o10 o11 hm h0 hl q
    unfold sBst at q
    refine b169_34 (chk_i (by omega) (ite_i (fun c => chk_i hb (ite_i (fun c2 => ?_) fun c2 => ?_)) fun c => absurd c (by omega)))
    · rwa [if_pos c2] at q
    · rw [if_neg c2] at q
      have hw := sWst_r (bits := bits) (own := own) (ty := ty) 3 0 0 (by omega)
      refine c169_51 ho (by omega) hl 3 0 0 _ _ rfl (Int.le_refl _) (by omega) fun a b c d => ?_
      by_cases c3 : sWst bits own ty 3 0 0 < least
      · rw [if_pos c3, if_pos c3]
        rw [if_pos c3] at q
        exact ih (ty + 1) _ _ _ _ _ _ (by omega) (by omega) (by omega) q
      · rw [if_neg c3, if_neg c3]
        rw [if_neg c3] at q
        exact ih (ty + 1) _ _ _ _ _ _ (by omega) (by omega) hl q
theorem vSorts_R {f p : Int} : qR (vSorts D f p) := sSorts_R _ _ _ (by omega)
theorem c169 {f p : Int} (h : RVs D) (hf : 0 ≤ f ∧ f < D 28 14) (hp : 0 ≤ p ∧ p < D 38 f) (k : Q (vAsk D f p) t D) : wp S 169 0 [some (qs 28), some (qi f), some (qi p), none, none, none, none, none, none, none, none, none] [] t D Q := by
  have h1 := h.1.1
  have h2 := h.1.2.1 f hf.1 hf.2
  have h3 := h.1.2.2.2.2.2 f p hf.1 hf.2 hp.1 hp.2
  refine b169_0 (chk_i (by omega) (c168 h hf hp ?_))
  exact c169_34 (by omega) vSorts_R 5 0 (-1) 6 _ _ _ _ rfl (Int.le_refl _) (by omega) k
theorem c158 {f p w : Int} (hw : qR w) (h : RVs D) (hf : 0 ≤ f ∧ f < D 28 14) (hp : 0 ≤ p ∧ p < D 38 f) (k : Q (vTellPad D f p w) t D) : wp S 158 0 [some (qs 28), some (qi f), some (qi p), some (qi w)] [] t D Q := by
  have h1 := h.1.1
  have h2 := h.1.2.1 f hf.1 hf.2
  unfold vTellPad at k
  refine b158_0 (chk_i hw (ite_i (fun c => chk_i (by omega) ?_) fun c => ite_i (fun c1 => chk_i (by omega) ?_) fun c1 => ite_i (fun c2 => chk_i (by omega) ?_) fun c2 => ite_i (fun c3 => chk_i (by omega) ?_) fun c3 => ite_i (fun c4 => chk_i (by omega) ?_) fun c4 => ite_i (fun c5 => c168 h hf hp ?_) fun c5 => ite_i (fun c6 => c169 h hf hp ?_) fun c6 => ?_))
  · rwa [if_pos c] at k
  · rwa [if_neg c, if_pos (by omega)] at k
  · rwa [if_neg c, if_pos (by omega)] at k
  · rwa [if_neg c, if_pos (by omega)] at k
  · rwa [if_neg c, if_pos (by omega)] at k
  · rwa [if_neg c, if_neg (by omega), if_pos c5] at k
  · rwa [if_neg c, if_neg (by omega), if_neg c5, if_pos c6] at k
  · rwa [if_neg c, if_neg (by omega), if_neg c5, if_neg c6] at k
theorem c159 {f p w : Int} (hf : qR f) (hp : qR p) (hw : qR w) (h : RVs D) (k : Q (vPad D f p w) t D) : wp S 159 0 [some (qs 28), some (qi f), some (qi p), some (qi w)] [] t D Q := by
  unfold vPad at k
  refine b159_0 (c130 hf hp h.1 (chk_i tfR (tf (fun c => c158 hw h ⟨c.1, c.2.1⟩ c.2.2 ?_) fun c => ?_)))
  · rwa [if_neg (fun z => z c)] at k
  · rwa [if_pos c] at k
theorem c160 {f p w : Int} (hf : qR f) (hp : qR p) (hw : qR w) (h : RVs D) (k : Q (vAs D f p w) t D) : wp S 160 0 [some (qs 28), some (qi f), some (qi p), some (qi w), none] [] t D Q := by
  have h1 := h.1.1
  unfold vAs at k
  refine b160_0 (c130 hf hp h.1 (chk_i tfR (tf (fun c => chk_i hw (c110 hw (by omega) (by omega) (chk_i tfR (tf (fun c2 => ?_) fun c2 => ?_)))) fun c => ?_)))
  · have h2 := h.1.2.1 f c.1 c.2.1
    have h4 := h.2.1.2.2.1 (3 * f + p) (by omega) (by omega)
    rw [if_neg (fun z => z c), if_neg (fun z => z c2)] at k
    refine chk_i (by omega) (chk_i hw (ite_i (fun c3 => ?_) fun c3 => chk_i hw (chk_i (by omega) (ite_i (fun c4 => ?_) fun c4 => chk_i hw (ite_i (fun c5 => chk_i (by omega) (ite_i (fun c6 => ?_) fun c6 => ?_)) fun c5 => ?_)))))
    · rwa [if_pos (.inl c3)] at k
    · rwa [if_pos (.inr (.inl c4))] at k
    · rwa [if_pos (.inr (.inr ⟨c5, c6⟩))] at k
    · rwa [if_neg (by omega)] at k
    · rwa [if_neg (by omega)] at k
  · rwa [if_neg (fun z => z c), if_pos c2] at k
  · rwa [if_pos c] at k
theorem c161_13 {r n : Int} (hC : CVd D) (hV : RVd (D 28 14) (D 42)) (hr : 0 ≤ r ∧ r < 4) (hn : 0 ≤ n ∧ n < D 42 13) : ∀ (m : Nat) (i v : Int) (o5 o6 : Option qV), i + m = n + 1 → 0 ≤ i → Q (sCl (D 34) (D 42) r m i v) t D →
    wp S 161 13 [some (qs 28), some (qi n), some (qi r), some (qi v), some (qi i), o5, o6] [] t D Q := by
  have h13 := hV.1
  have h1 := hC.1
  intro m
  induction m with
  | zero =>
    intro i v o5 o6 hm hi q
    exact b161_13 (chk_i (by omega) (chk_i (by omega) (ite_i (fun c => q) fun c => absurd (show n < i by omega) c)))
  | succ m ih =>
    intro i v o5 o6 hm hi q
    have ha := sAt_r hV hi (by omega)
    have hc := hC.2.2.2.1 (40 * D 42 (sAt (D 42) i) + 4 * D 42 (sAt (D 42) i + 1) + r) (by omega) (by omega)
    have e : sCl (D 34) (D 42) r (m + 1) i v = sCl (D 34) (D 42) r m (i + 1) (sReg (D 34) (D 42) i r v) := rfl
    rw [e] at q
    refine b161_13 (chk_i (by omega) (chk_i (by omega) (ite_i (fun c => absurd c (by omega)) fun c => c134 (chk_i (by omega) (chk_i (by omega) (chk_i (by omega) (chk_i (by omega) (ite_i (fun c2 => ?_) fun c2 => chk_i (by omega) ?_))))))))
    · have e2 : sReg (D 34) (D 42) i r v = v := if_pos c2
      rw [e2] at q
      exact ih (i + 1) _ _ _ (by omega) (by omega) q
    · have e2 : sReg (D 34) (D 42) i r v = D 42 (sAt (D 42) i + 2 + D 34 (40 * D 42 (sAt (D 42) i) + 4 * D 42 (sAt (D 42) i + 1) + r)) := if_neg c2
      rw [e2] at q
      exact ih (i + 1) _ _ _ (by omega) (by omega) q
theorem c162 {n w : Int} (h : RVs D) (hn : 0 ≤ n ∧ n < D 42 13) (hw : 0 ≤ w ∧ w ≤ 11) (k : Q (vTellFrame D n w) t D) : wp S 162 0 [some (qs 28), some (qi n), some (qi w)] [] t D Q := by
  obtain ⟨hC, hV, -⟩ := h
  have h13 := hV.1
  have ha := sAt_r hV hn.1 hn.2
  unfold vTellFrame at k
  refine b162_0 (chk_i (by omega) (ite_i (fun c => c134 (chk_i (by omega) ?_)) fun c => b161_0 (chk_i (by omega) ?_)))
  · rwa [if_pos c] at k
  · rw [if_neg c] at k
    exact c161_13 hC hV (by omega) hn (n + 1).toNat 0 _ _ _ (by omega) (Int.le_refl _) k
theorem c163 {n w : Int} (hn : qR n) (hw : qR w) (h : RVs D) (k : Q (vFrame D n w) t D) : wp S 163 0 [some (qs 28), some (qi n), some (qi w)] [] t D Q := by
  have h13 := h.2.1.1
  unfold vFrame at k
  refine b163_0 (chk_i hn (c133 (chk_i (by omega) (c110 hn (by omega) (by omega) (chk_i tfR (tf (fun c => chk_i hw (c110 hw (by omega) (by omega) (chk_i tfR (tf (fun c2 => c162 h (by omega) c2 ?_) fun c2 => ?_)))) fun c => ?_))))))
  · rwa [if_neg (by omega), if_neg (fun z => z c2)] at k
  · rwa [if_neg (by omega), if_pos c2] at k
  · rwa [if_pos (by omega)] at k
theorem c164 {r : Int} (hr : qR r) (k : Q (vReg D r) t D) : wp S 164 0 [some (qs 28), some (qi r)] [] t D Q := by
  unfold vReg at k
  refine b164_0 (chk_i hr (c110 hr (by omega) (by omega) (chk_i tfR (tf (fun c => chk_i (by omega) ?_) fun c => ?_))))
  · rwa [if_neg (fun z => z c)] at k
  · rwa [if_pos c] at k
theorem c165_24 {f g : Int} (hC : CVd D) (hf : 0 ≤ f ∧ f < D 28 14) (hg : 0 ≤ g ∧ g < D 28 14) : ∀ (m : Nat) (i is : Int), i + m = 40 → 0 ≤ i → (is = 0 ∨ is = 1) → Q (if is = 0 then 0 else sSame (D 34) f g m i) t D →
    wp S 165 24 [some (qs 28), some (qi f), some (qi g), some (qi is), some (qi i)] [] t D Q := by
  have h1 := hC.1
  intro m
  induction m with
  | zero =>
    intro i is hm hi his q
    refine b165_24 (chk_i (by omega) (ite_i (fun c => absurd c (by omega)) fun c => chk_i (by omega) (ite_i (fun c2 => ?_) fun c2 => ?_)))
    · rwa [if_pos c2] at q
    · rwa [if_neg c2] at q
  | succ m ih =>
    intro i is hm hi his q
    have e : sSame (D 34) f g (m + 1) i = if D 34 (40 * f + i) = D 34 (40 * g + i) then sSame (D 34) f g m (i + 1) else 0 := rfl
    have r1 := hC.2.2.2.1 (40 * f + i) (by omega) (by omega)
    have r2 := hC.2.2.2.1 (40 * g + i) (by omega) (by omega)
    refine b165_24 (chk_i (by omega) (ite_i (fun c => chk_i (by omega) (ite_i (fun c2 => ?_) fun c2 => chk_i (by omega) (chk_i (by omega) (chk_i (by omega) (chk_i (by omega) (ite_i (fun c3 => ?_) fun c3 => ?_)))))) fun c => absurd c (by omega)))
    · rw [if_pos c2] at q
      exact ih (i + 1) 0 (by omega) (by omega) (.inl rfl) (by rw [if_pos rfl]; exact q)
    · rw [if_neg c2, e, if_pos c3] at q
      exact ih (i + 1) 1 (by omega) (by omega) (.inr rfl) (by rw [if_neg (by omega)]; exact q)
    · rw [if_neg c2, e, if_neg c3] at q
      exact ih (i + 1) 0 (by omega) (by omega) (.inl rfl) (by rw [if_pos rfl]; exact q)
theorem c165 {f g : Int} (hf : qR f) (hg : qR g) (h : RVs D) (k : Q (vSame D f g) t D) : wp S 165 0 [some (qs 28), some (qi f), some (qi g), none, none] [] t D Q := by
  unfold vSame at k
  refine b165_0 (c129 hf h.1.1 (chk_i tfR (tf (fun c => c129 hg h.1.1 (chk_i tfR (tf (fun c2 => ?_) fun c2 => ?_))) fun c => ?_)))
  · rw [if_neg (fun z => z c), if_neg (fun z => z c2)] at k
    exact c165_24 h.1 c c2 40 0 1 rfl (Int.le_refl _) (.inr rfl) (by rw [if_neg (by omega)]; exact k)
  · rwa [if_neg (fun z => z c), if_pos c2] at k
  · rwa [if_pos c] at k
theorem c154 {i : Int} (hi : qR i) (h : RVs D) (k : Q (vFin D i) t D) : wp S 154 0 [some (qs 28), some (qi i)] [] t D Q := by
  have h78 := h.2.1.2.2.2.1
  unfold vFin at k
  refine b154_0 (chk_i hi (ite_i (fun c => ?_) fun c => chk_i hi (chk_i (by omega) (c110 hi (by omega) (by omega) (chk_i tfR (tf (fun c2 => chk_i (by omega) ?_) fun c2 => ?_))))))
  · rwa [if_pos c] at k
  · rwa [if_neg c, if_neg (by omega)] at k
  · rwa [if_neg c, if_pos (by omega)] at k
theorem c166 {f p ty did : Int} (hf : qR f) (hp : qR p) (ht : qR ty) (hd : qR did) (h : RVs D) (k : Q (pSee D f p ty did).1 t (pSee D f p ty did).2) : wp S 166 0 [some (qs 28), some (qi f), some (qi p), some (qi ty), some (qi did)] [] t D Q := by
  have h31 := h.2.2.2.1
  unfold pSee at k
  refine b166_0 (c130 hf hp h.1 (chk_i tfR (tf (fun c => chk_i ht (c110 ht (by omega) (by omega) (chk_i tfR (tf (fun c2 => chk_i hd (c110 hd (by omega) (by omega) (chk_i tfR (tf (fun c3 => chk_i (by omega) (ite_i (fun c4 => ?_) fun c4 => ?_)) fun c3 => ?_)))) fun c2 => ?_)))) fun c => ?_)))
  · rwa [if_neg (fun z => z c), if_neg (fun z => z c2), if_neg (fun z => z c3), if_pos c4] at k
  · rw [if_neg (fun z => z c), if_neg (fun z => z c2), if_neg (fun z => z c3), if_neg c4] at k
    simp only [up_eq, upr_u, upr_s, upr_b, Nat.reduceBEq]
    exact chk_i (by omega) (chk_i (by omega) (chk_i (by omega) (chk_i (by omega) k)))
  · rwa [if_neg (fun z => z c), if_neg (fun z => z c2), if_pos c3] at k
  · rwa [if_neg (fun z => z c), if_pos c2] at k
  · rwa [if_pos c] at k
theorem c167 (k : Q (pForget D).1 t (pForget D).2) : wp S 167 0 [some (qs 28), none] [] t D Q := by
  refine b167_0 ?_
  rw [up_eq]
  exact k
theorem c179_4 (hC : CVd D) : ∀ (m : Nat) (f s : Int), f + m = 3 → 0 ≤ f → Q (sPads (D 38) (D 28 14) m f s) t D → wp S 179 4 [some (qs 28), some (qi s), some (qi f)] [] t D Q := by
  have h1 := hC.1
  intro m
  induction m with
  | zero =>
    intro f s hm hf q
    exact b179_4 (chk_i (by omega) (chk_i (by omega) (ite_i (fun c => absurd c (by omega)) fun c => q)))
  | succ m ih =>
    intro f s hm hf q
    unfold sPads at q
    refine b179_4 (chk_i (by omega) (chk_i (by omega) (ite_i (fun c => chk_i (by omega) ?_) fun c => ?_)))
    · rw [if_pos c] at q
      exact ih (f + 1) _ (by omega) (by omega) q
    · rwa [if_neg c] at q
theorem c180_20 {i s : Int} (hC : CVd D) (hi : 0 ≤ i ∧ i < 10 * D 28 14) : ∀ (m : Nat) (r is : Int), r + m = 4 → 0 ≤ r → (is = 0 ∨ is = 1) →
    (∀ o3 o4, wp S 180 4 [some (qs 28), some (qi (s + if is = 1 ∨ sAny (D 34) i m r = true then 1 else 0)), some (qi (i + 1)), o3, o4] [] t D Q) →
    wp S 180 20 [some (qs 28), some (qi s), some (qi i), some (qi is), some (qi r)] [] t D Q := by
  have h1 := hC.1
  intro m
  induction m with
  | zero =>
    intro r is hm hr his q
    refine b180_20 (chk_i (by omega) (ite_i (fun c => absurd c (by omega)) fun c => chk_i (by omega) (ite_i (fun c2 => ?_) fun c2 => ?_)))
    · rw [if_neg (fun z => by rcases z with z | z; omega; exact Bool.noConfusion z)] at q; exact q _ _
    · rw [if_pos (by omega)] at q; exact q _ _
  | succ m ih =>
    intro r is hm hr his q
    have e : sAny (D 34) i (m + 1) r = if D 34 (4 * i + r) = -1 then sAny (D 34) i m (r + 1) else true := rfl
    have r1 := hC.2.2.2.1 (4 * i + r) (by omega) (by omega)
    have hone : is = 1 ∨ sAny (D 34) i (m + 1) r = true → (∀ o3 o4, wp S 180 4 [some (qs 28), some (qi (s + 1)), some (qi (i + 1)), o3, o4] [] t D Q) := fun z => by rw [if_pos z] at q; exact q
    have ih1 := fun (z : is = 1 ∨ sAny (D 34) i (m + 1) r = true) => ih (r + 1) 1 (by omega) (by omega) (.inr rfl) (by rw [if_pos (.inl rfl)]; exact hone z)
    refine b180_20 (chk_i (by omega) (ite_i (fun c => chk_i (by omega) (ite_i (fun c2 => chk_i (by omega) (chk_i (by omega) (ite_i (fun c3 => ?_) fun c3 => ?_))) fun c2 => ?_)) fun c => absurd c (by omega)))
    · rw [if_pos c3] at e
      rw [e] at q
      refine ih (r + 1) 0 (by omega) (by omega) (.inl rfl) ?_
      rw [c2] at q
      exact q
    · rw [if_neg c3] at e
      exact ih1 (.inr e)
    · exact ih1 (.inl (by omega))
theorem c180_4 (hC : CVd D) : ∀ (m : Nat) (i s : Int) (o3 o4 : Option qV), i + m = 30 → 0 ≤ i → Q (sSvd (D 34) (D 28 14) m i s) t D → wp S 180 4 [some (qs 28), some (qi s), some (qi i), o3, o4] [] t D Q := by
  have h1 := hC.1
  intro m
  induction m with
  | zero =>
    intro i s o3 o4 hm hi q
    exact b180_4 (chk_i (by omega) (chk_i (by omega) (ite_i (fun c => absurd c (by omega)) fun c => q)))
  | succ m ih =>
    intro i s o3 o4 hm hi q
    unfold sSvd at q
    refine b180_4 (chk_i (by omega) (chk_i (by omega) (ite_i (fun c => ?_) fun c => ?_)))
    · rw [if_pos c] at q
      refine c180_20 hC ⟨hi, c⟩ 4 0 0 rfl (Int.le_refl _) (.inl rfl) fun x y => ?_
      refine ih (i + 1) _ _ _ (by omega) (by omega) ?_
      by_cases c2 : sAny (D 34) i 4 0 = true
      · rw [if_pos (.inr c2)]; rwa [if_pos c2] at q
      · rw [if_neg (fun z => by rcases z with z | z; omega; exact c2 z)]; rwa [if_neg c2] at q
    · rwa [if_neg c] at q
theorem c181 {w : Int} (hw : qR w) (hC : CVd D) (k : Q (vCount D w) t D) : wp S 181 0 [some (qs 28), some (qi w)] [] t D Q := by
  unfold vCount at k
  refine b181_0 (chk_i hw (ite_i (fun c => ?_) fun c => ite_i (fun c1 => b179_0 (c179_4 hC 3 0 0 rfl (Int.le_refl _) ?_)) fun c1 => ite_i (fun c2 => c133 ?_) fun c2 => ite_i (fun c3 => ?_) fun c3 => ite_i (fun c4 => b180_0 (c180_4 hC 30 0 0 _ _ rfl (Int.le_refl _) ?_)) fun c4 => ite_i (fun c5 => ?_) fun c5 => ite_i (fun c6 => ?_) fun c6 => ite_i (fun c7 => ?_) fun c7 => ?_))
  · rwa [if_pos c] at k
  · rwa [if_neg c, if_pos c1] at k
  · rwa [if_neg c, if_neg c1, if_pos c2] at k
  · rwa [if_neg c, if_neg c1, if_neg c2, if_pos c3] at k
  · rwa [if_neg c, if_neg c1, if_neg c2, if_neg c3, if_pos c4] at k
  · rwa [if_neg c, if_neg c1, if_neg c2, if_neg c3, if_neg c4, if_pos c5] at k
  · rwa [if_neg c, if_neg c1, if_neg c2, if_neg c3, if_neg c4, if_neg c5, if_pos c6] at k
  · rwa [if_neg c, if_neg c1, if_neg c2, if_neg c3, if_neg c4, if_neg c5, if_neg c6, if_pos c7] at k
  · rwa [if_neg c, if_neg c1, if_neg c2, if_neg c3, if_neg c4, if_neg c5, if_neg c6, if_neg c7] at k
end RG
