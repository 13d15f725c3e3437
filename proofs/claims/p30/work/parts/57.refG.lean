/-! ## the reference's calls that tell -/
def vTellRow (D : qD) (f b w : Int) : Int := if w = 4 then D 35 (10 * f + b) else if w = 5 then D 36 (10 * f + b) else D 34 (40 * f + 4 * b + w)
def vRow (D : qD) (f b w : Int) : Int := if ¬ (0 ≤ f ∧ f < D 28 14) then -101 else if ¬ (0 ≤ b ∧ b ≤ 9) then -101 else if ¬ (0 ≤ w ∧ w ≤ 5) then -102 else vTellRow D f b w
def sCan (sg : Int → Int) (many f p own kd : Int) : Nat → Int → Bool
  | 0, _ => true
  | k + 1, i => if i < many then (if sg (4 * i) = f ∧ sg (4 * i + 1) = p ∧ ¬ sDoes kd own (sg (4 * i + 2)) = sg (4 * i + 3) then false else sCan sg many f p own kd k (i + 1)) else true
def sSorts (sg : Int → Int) (many f p own : Int) : Nat → Int → Int → Int
  | 0, _, b => b
  | k + 1, kd, b => sSorts sg many f p own k (kd + 1) (if sCan sg many f p own kd 6 0 = true then qor b (qshl 1 kd) else b)
def sCnt (bits own ty did : Int) : Nat → Int → Int → Int
  | 0, _, s => s
  | k + 1, kd, s => sCnt bits own ty did k (kd + 1) (if sDoes kd own ty = did then s + qand (qshr bits kd) 1 else s)
def sWst (bits own ty : Int) : Nat → Int → Int → Int
  | 0, _, w => w
  | k + 1, did, w => sWst bits own ty k (did + 1) (if w < sCnt bits own ty did 5 0 0 then sCnt bits own ty did 5 0 0 else w)
def sBst (bits own : Int) : Nat → Int → Int → Int → Int
  | 0, _, b, _ => b
  | k + 1, ty, b, l => if bits = 0 then b else if sWst bits own ty 3 0 0 < l then sBst bits own k (ty + 1) ty (sWst bits own ty 3 0 0) else sBst bits own k (ty + 1) b l
def vSorts (D : qD) (f p : Int) : Int := sSorts (D 44) (D 28 31) f p (D 40 (15 * f + 5 * p + 3)) 5 0 0
def vAsk (D : qD) (f p : Int) : Int := sBst (vSorts D f p) (D 40 (15 * f + 5 * p + 3)) 5 0 (-1) 6
def vTellPad (D : qD) (f p w : Int) : Int := if w = 0 then D 42 (3 * f + p) else if 1 ≤ w ∧ w ≤ 4 then D 40 (15 * f + 5 * p + w) else if w = 5 then vSorts D f p else if w = 6 then vAsk D f p else -102
def vPad (D : qD) (f p w : Int) : Int := if ¬ (0 ≤ f ∧ f < D 28 14 ∧ 0 ≤ p ∧ p < D 38 f) then -101 else vTellPad D f p w
def vAs (D : qD) (f p kd : Int) : Int := if ¬ (0 ≤ f ∧ f < D 28 14 ∧ 0 ≤ p ∧ p < D 38 f) then -101 else if ¬ (0 ≤ kd ∧ kd ≤ 4) then -102 else
  if kd = 0 ∨ kd = D 42 (3 * f + p) ∨ (kd = 2 ∧ D 42 (3 * f + p) = 4) then p else -1
def vTellFrame (D : qD) (n w : Int) : Int := if w < 8 then D 42 (sAt (D 42) n + w) else sCl (D 34) (D 42) (w - 8) (n + 1).toNat 0 (D 42 (9 + (w - 8)))
def vFrame (D : qD) (n w : Int) : Int := if ¬ (0 ≤ n ∧ n < D 42 13) then -101 else if ¬ (0 ≤ w ∧ w ≤ 11) then -102 else vTellFrame D n w
def vReg (D : qD) (r : Int) : Int := if ¬ (0 ≤ r ∧ r ≤ 3) then -101 else D 42 (9 + r)
def sSame (sv : Int → Int) (f g : Int) : Nat → Int → Int
  | 0, _ => 1
  | k + 1, i => if sv (40 * f + i) = sv (40 * g + i) then sSame sv f g k (i + 1) else 0
def vSame (D : qD) (f g : Int) : Int := if ¬ (0 ≤ f ∧ f < D 28 14) then -101 else if ¬ (0 ≤ g ∧ g < D 28 14) then -101 else sSame (D 34) f g 40 0
def vFin (D : qD) (i : Int) : Int := if i = -1 then D 42 78 else if ¬ (0 ≤ i ∧ i < D 42 78) then -101 else D 42 (79 + i)
def pSee (D : qD) (f p ty did : Int) : Int × qD := if ¬ (0 ≤ f ∧ f < D 28 14 ∧ 0 ≤ p ∧ p < D 38 f) then (-101, D) else if ¬ (0 ≤ ty ∧ ty ≤ 4) then (-102, D) else if ¬ (0 ≤ did ∧ did ≤ 2) then (-102, D) else if D 28 31 = 6 then (-104, D)
  else (D 28 31 + 1, upr (upr D 44 (ui (ui (ui (ui (D 44) (4 * D 28 31) f) (4 * D 28 31 + 1) p) (4 * D 28 31 + 2) ty) (4 * D 28 31 + 3) did)) 28 (ui (D 28) 31 (D 28 31 + 1)))
def pForget (D : qD) : Int × qD := (D 28 31, upr D 28 (ui (D 28) 31 0))
def sPads (pm : Int → Int) (nf : Int) : Nat → Int → Int → Int
  | 0, _, s => s
  | k + 1, f, s => if f < nf then sPads pm nf k (f + 1) (s + pm f) else s
def sAny (sv : Int → Int) (i : Int) : Nat → Int → Bool
  | 0, _ => false
  | k + 1, r => if sv (4 * i + r) = -1 then sAny sv i k (r + 1) else true
def sSvd (sv : Int → Int) (nf : Int) : Nat → Int → Int → Int
  | 0, _, s => s
  | k + 1, i, s => if i < 10 * nf then sSvd sv nf k (i + 1) (s + if sAny sv i 4 0 = true then 1 else 0) else s
def vCount (D : qD) (w : Int) : Int := if w = 0 then D 28 14 else if w = 1 then sPads (D 38) (D 28 14) 3 0 0 else if w = 2 then D 42 13 else if w = 3 then D 28 27 else if w = 4 then sSvd (D 34) (D 28 14) 30 0 0 else if w = 5 then D 28 31 else if w = 6 then D 28 1 else if w = 7 then D 28 15 else -102
theorem i32R (z : Int32) : qR z.toInt := ⟨Int32.le_toInt z, Int32.toInt_lt z⟩
theorem qor_R {x y : Int} : qR (qor x y) := i32R _
theorem qand_R {x y : Int} : qR (qand x y) := i32R _
theorem qor_0 {x : Int} (h : qR x) : qor x 0 = x := by
  unfold qor
  rw [show Int32.ofInt 0 = 0 from rfl, Int32.or_zero, i32_int h]
theorem qand_1 (x : Int) : qand x 1 = 0 ∨ qand x 1 = 1 := by
  unfold qand
  have h : ∀ z : Int32, (z &&& 1).toInt = 0 ∨ (z &&& 1).toInt = 1 := fun z => by
    have e : z &&& 1 = 0 ∨ z &&& 1 = 1 := by
      have h1 : (z &&& 1).toBitVec = z.toBitVec &&& 1#32 := rfl
      have h2 : (z.toBitVec &&& 1#32).toNat = z.toBitVec.toNat % 2 := by
        rw [BitVec.toNat_and]; exact Nat.and_one_is_mod _
      rcases Nat.mod_two_eq_zero_or_one z.toBitVec.toNat with h3 | h3
      · left
        rw [← Int32.toBitVec_inj, h1]
        apply BitVec.eq_of_toNat_eq
        rw [h2, h3]; rfl
      · right
        rw [← Int32.toBitVec_inj, h1]
        apply BitVec.eq_of_toNat_eq
        rw [h2, h3]; rfl
    rcases e with e | e <;> rw [e]
    · left; rfl
    · right; rfl
  exact h (Int32.ofInt x)
section RG
variable {S : (Nat → Int32) × Nat} {t : qT} {D : qD} {Q : Int → qT → qD → Prop}
theorem sSorts_R {sg : Int → Int} {many f p own : Int} : ∀ (m : Nat) (kd b : Int), qR b → qR (sSorts sg many f p own m kd b) := by
  intro m
  induction m with
  | zero => intro kd b h; exact h
  | succ m ih =>
    intro kd b h
    unfold sSorts
    refine ih _ _ ?_
    split
    · exact qor_R
    · exact h
theorem sCnt_r {bits own ty did : Int} : ∀ (m : Nat) (kd s : Int), s ≤ sCnt bits own ty did m kd s ∧ sCnt bits own ty did m kd s ≤ s + m := by
  intro m
  induction m with
  | zero => intro kd s; exact ⟨Int.le_refl _, by show s ≤ s + (0 : Nat); omega⟩
  | succ m ih =>
    intro kd s
    unfold sCnt
    have h1 := qand_1 (qshr bits kd)
    split
    · have := ih (kd + 1) (s + qand (qshr bits kd) 1); omega
    · have := ih (kd + 1) s; omega
theorem sWst_r {bits own ty : Int} : ∀ (m : Nat) (did w : Int), (0 ≤ w ∧ w ≤ 5) → 0 ≤ sWst bits own ty m did w ∧ sWst bits own ty m did w ≤ 5 := by
  intro m
  induction m with
  | zero => intro did w h; exact h
  | succ m ih =>
    intro did w h
    unfold sWst
    refine ih _ _ ?_
    have := sCnt_r (bits := bits) (own := own) (ty := ty) (did := did) 5 0 0
    split <;> omega
theorem sBst_r {bits own : Int} : ∀ (m : Nat) (ty b l : Int), (-1 ≤ b ∧ b < 5) → (0 ≤ ty ∧ ty + m ≤ 5) → -1 ≤ sBst bits own m ty b l ∧ sBst bits own m ty b l < 5 := by
  intro m
  induction m with
  | zero => intro ty b l h _; exact h
  | succ m ih =>
    intro ty b l h h2
    unfold sBst
    split
    · exact h
    · split
      · exact ih _ _ _ (by omega) (by omega)
      · exact ih _ _ _ h (by omega)
theorem vSorts_R {f p : Int} : qR (vSorts D f p) := sSorts_R _ _ _ (by omega)
end RG
