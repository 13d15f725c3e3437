/-! ## the law's own methods: words, frames, a row replayed -/
theorem qusr_r {x y : Int} (h : 1 ≤ y ∧ y ≤ 31) : 0 ≤ qusr x y ∧ qusr x y < 2147483648 := by
  have e : ∀ z : Int, (Int32.ofInt z).toUInt32.toNat = (z % 4294967296).toNat := fun z => by
    show (BitVec.ofInt 32 z).toNat = _
    rw [BitVec.toNat_ofInt]; rfl
  have k : ((Int32.ofInt y).toUInt32 &&& Int32.toUInt32 31).toNat = y.toNat := by
    rw [UInt32.toNat_and, e, show (Int32.toUInt32 31).toNat = 2 ^ 5 - 1 from rfl, Nat.and_two_pow_sub_one_eq_mod]
    omega
  unfold qusr
  generalize hw : (Int32.ofInt x).toUInt32 >>> ((Int32.ofInt y).toUInt32 &&& Int32.toUInt32 31) = w
  have hn : w.toNat < 2 ^ 31 := by
    rw [← hw, UInt32.toNat_shiftRight, k, Nat.shiftRight_eq_div_pow]
    have a := (Int32.ofInt x).toUInt32.toNat_lt
    have b : 2 ^ 1 ≤ 2 ^ (y.toNat % 32) := Nat.pow_le_pow_right (by decide) (by omega)
    have c := Nat.div_le_div_left (a := (Int32.ofInt x).toUInt32.toNat) b (by decide)
    omega
  have z : w.toInt32.toInt = w.toNat := by
    show w.toBitVec.toInt = _
    rw [BitVec.toInt_eq_toNat_of_lt (show 2 * w.toBitVec.toNat < 2 ^ 32 by show 2 * w.toNat < 2 ^ 32; omega)]
    rfl
  rw [z]; omega
/-- cells and places: new ones at the end, two that may be written -/
def KX (a1 a2 : Nat) (t t' : qT) (D D' : qD) (c s : Nat) : Prop := (t.2.2.1 ≤ t'.2.2.1 ∧ t'.2.2.1 ≤ t.2.2.1 + c ∧ t'.2.2.2 ≤ t.2.2.2 + s) ∧ ∀ b, b < t.2.2.1 → t'.1 b = t.1 b ∧ t'.2.1 b = t.2.1 b ∧ (b ≠ a1 → b ≠ a2 → D' b = D b)
theorem KX.z {a1 a2 : Nat} {t : qT} {D : qD} : KX a1 a2 t t D D 0 0 := ⟨⟨Nat.le_refl _, Nat.le_refl _, Nat.le_refl _⟩, fun _ _ => ⟨rfl, rfl, fun _ _ => rfl⟩⟩
theorem KX.d {a1 a2 : Nat} {t : qT} {D D' : qD} (h : ∀ b, b ≠ a1 → b ≠ a2 → D' b = D b) : KX a1 a2 t t D D' 0 0 := ⟨⟨Nat.le_refl _, Nat.le_refl _, Nat.le_refl _⟩, fun b _ => ⟨rfl, rfl, h b⟩⟩
theorem KX.w {a1 a2 c s c' s' : Nat} {t t' : qT} {D D' : qD} (h : KX a1 a2 t t' D D' c s) (hc : c ≤ c') (hs : s ≤ s') : KX a1 a2 t t' D D' c' s' := ⟨⟨h.1.1, by have := h.1.2.1; omega, by have := h.1.2.2; omega⟩, h.2⟩
theorem KX.tr {a1 a2 x y c s c' s' c2 s2 : Nat} {t u v : qT} {D E F : qD} (h : KX a1 a2 t u D E c s) (k : KX x y u v E F c' s') (hx : x = a1 ∨ x = a2 ∨ t.2.2.1 ≤ x) (hy : y = a1 ∨ y = a2 ∨ t.2.2.1 ≤ y) (hc : c + c' ≤ c2) (hs : s + s' ≤ s2) : KX a1 a2 t v D F c2 s2 := by
  obtain ⟨⟨h1, h2, h3⟩, h4⟩ := h
  obtain ⟨⟨k1, k2, k3⟩, k4⟩ := k
  refine ⟨⟨by omega, by omega, by omega⟩, fun b hb => ?_⟩
  obtain ⟨p1, p2, p3⟩ := h4 b hb
  obtain ⟨q1, q2, q3⟩ := k4 b (by omega)
  exact ⟨q1.trans p1, q2.trans p2, fun n1 n2 => (q3 (by omega) (by omega)).trans (p3 n1 n2)⟩
theorem KX.nw {a1 a2 z : Nat} {t : qT} {D : qD} {K : Nat × Int} {R : Int → Int} : KX a1 a2 t (nwT t.1 t.2.2.1 K, nwP t.2.1 t.2.2.1, (t.2.2.1 + 1, t.2.2.2 + z)) D (upr D t.2.2.1 R) 1 z :=
  ⟨⟨Nat.le_succ _, Nat.le_refl _, Nat.le_refl _⟩, fun b hb => ⟨if_neg (by omega), by show (nwP t.2.1 t.2.2.1) b = _; funext i; exact if_neg (by omega), fun _ _ => upr_n (by omega)⟩⟩
/-- an array of n numbers that is not the text's -/
def AR (t : qT) (a : Nat) (n : Int) : Prop := t.1 a = (10, n) ∧ 31 ≤ a ∧ a < t.2.2.1
theorem AR.k {a1 a2 c s a : Nat} {n : Int} {t t' : qT} {D D' : qD} (h : AR t a n) (k : KX a1 a2 t t' D D' c s) : AR t' a n := ⟨(k.2 a h.2.2).1.trans h.1, h.2.1, Nat.lt_of_lt_of_le h.2.2 k.1.1⟩
theorem AR.nw {t : qT} {x : Int} {z : Nat} (h : 31 ≤ t.2.2.1) : AR (nwT t.1 t.2.2.1 (10, x), nwP t.2.1 t.2.2.1, (t.2.2.1 + 1, t.2.2.2 + z)) t.2.2.1 x := ⟨if_pos rfl, h, Nat.lt_succ_self _⟩
theorem AR.o {t : qT} {x n : Int} {z a : Nat} (h : AR t a n) : AR (nwT t.1 t.2.2.1 (10, x), nwP t.2.1 t.2.2.1, (t.2.2.1 + 1, t.2.2.2 + z)) a n := ⟨(if_neg (by have := h.2.2; omega)).trans h.1, h.2.1, Nat.lt_succ_of_lt h.2.2⟩
theorem AR.k1 {t : qT} {a : Nat} {n : Int} (h : AR t a n) : (t.1 a).1 = 10 := by rw [h.1]
theorem AR.s {t : qT} {a : Nat} {n : Int} (h : qSt t) (ha : 31 ≤ a ∧ a < 34) (e : qsT a = (10, n)) : AR t a n := ⟨(h.2.2.1 a ha.2).trans e, ha.1, Nat.lt_of_lt_of_le ha.2 h.1⟩
/-! ### the text, as the law keeps it: b: where ops and pads begin; the letters -/
theorem oLe (op : Int → Int) (f : Int) : ∀ (m n : Nat), n ≤ m → oLen op f n ≤ oLen op f m := by
  intro m n h
  induction m with
  | zero => rw [Nat.le_zero.mp h]; exact Int.le_refl _
  | succ m ih =>
    rcases Nat.lt_or_ge n (m + 1) with c | c
    · have h1 := ih (by omega)
      have e : oLen op f (m + 1) = oLen op f m + 1 + zDig (op (24 * f + 3 * m)) := rfl
      have h2 := (zDig_r (op (24 * f + 3 * m))).1
      omega
    · rw [show n = m + 1 by omega]; exact Int.le_refl _
def BK (B T : Int → Int) (E : qD) (f : Nat) : Prop := (B (1 + f) = fPos (E 37) (E 38) (E 39) f ∧ B (4 + f) = E 38 f) ∧ FUL T (E 37) (E 38) (E 39) (E 40) f ∧
  (∀ p : Int, 0 ≤ p → p < E 38 f → B (7 + 3 * f + p) = fPos (E 37) (E 38) (E 39) f + oLen (E 39) f (E 37 f).toNat + 1 + 5 * p) ∧
  (0 ≤ fPos (E 37) (E 38) (E 39) f ∧ fPos (E 37) (E 38) (E 39) f + oLen (E 39) f (E 37 f).toNat + 1 + 5 * E 38 f ≤ 64) ∧ DNE (E 39) f (E 37 f).toNat E 10 ∧ f < 3
def TB (B T : Int → Int) (E : qD) : Prop := B 0 = E 28 14 ∧ (1 ≤ E 28 14 ∧ E 28 14 ≤ 3) ∧ ∀ f : Nat, (f : Int) < E 28 14 → BK B T E f
theorem BK.ov {B T : Int → Int} {E : qD} {f : Nat} (h : BK B T E f) : OV (E 39) f (E 37 f).toNat := h.2.1.ov h.2.2.2.2.2
theorem BK.op {B T : Int → Int} {E : qD} {f n : Nat} (h : BK B T E f) (hn : n < (E 37 f).toNat) : ∃ p c : Int, fPos (E 37) (E 38) (E 39) f + oLen (E 39) f n = p ∧ E 39 (24 * f + 3 * n) = c ∧ T p = c ∧ (0 ≤ p ∧ p + 1 + zDig c < 64) ∧ fPos (E 37) (E 38) (E 39) f + oLen (E 39) f (n + 1) = p + 1 + zDig c ∧
    ((c = 43 ∧ T (p + 1) = 48 + E 39 (24 * f + 3 * n + 1) ∧ 1 ≤ E 39 (24 * f + 3 * n + 1) ∧ E 39 (24 * f + 3 * n + 1) ≤ 9) ∨
     (c = 115 ∧ T (p + 1) = 48 + E 39 (24 * f + 3 * n + 1) ∧ T (p + 2) = 48 + E 39 (24 * f + 3 * n + 2) ∧ (0 ≤ E 39 (24 * f + 3 * n + 1) ∧ E 39 (24 * f + 3 * n + 1) ≤ 3) ∧ 0 ≤ E 39 (24 * f + 3 * n + 2) ∧ E 39 (24 * f + 3 * n + 2) ≤ 5) ∨
     (c = 117 ∧ T (p + 1) = 48 + E 39 (24 * f + 3 * n + 1) ∧ 0 ≤ E 39 (24 * f + 3 * n + 1) ∧ E 39 (24 * f + 3 * n + 1) ≤ 3) ∨ c = 109 ∨ c = 98) := by
  obtain ⟨-, ⟨hb, ho, he, -⟩, -, hr, -, -⟩ := h
  obtain ⟨hv, h0, hd, -, -, -⟩ := ho n hn
  have h1 := oLe (E 39) f n 0 (Nat.zero_le _)
  have e0 : oLen (E 39) f 0 = 0 := rfl
  have e1 : oLen (E 39) f (n + 1) = oLen (E 39) f n + 1 + zDig (E 39 (24 * f + 3 * n)) := rfl
  have h2 := oLe (E 39) f (E 37 f).toNat (n + 1) hn
  refine ⟨_, _, rfl, rfl, h0, ⟨by omega, by omega⟩, by omega, ?_⟩
  unfold opV at hv
  rcases hv with ⟨a, b⟩ | ⟨a, b⟩ | ⟨a, b⟩ | a | a
  · rw [a] at hd
    exact Or.inl ⟨a, hd 1 (by decide) (by decide), b⟩
  · rw [a] at hd
    exact Or.inr (Or.inl ⟨a, hd 1 (by decide) (by decide), hd 2 (by decide) (by decide), ⟨b.1, b.2.1⟩, b.2.2⟩)
  · rw [a] at hd
    exact Or.inr (Or.inr (Or.inl ⟨a, hd 1 (by decide) (by decide), b⟩))
  · exact Or.inr (Or.inr (Or.inr (Or.inl a)))
  · exact Or.inr (Or.inr (Or.inr (Or.inr a)))
/-- the script is as short as the claim has it -/
def SB (S : (Nat → Int32) × Nat) : Prop := S.2 ≤ 260
section LA
variable {S : (Nat → Int32) × Nat} {t : qT} {D : qD} {Q : Int → qT → qD → Prop}
theorem r96 {k : Int} (hk : 0 ≤ k ∧ k < 100) (hS : SB S) (q : ∀ x, Q x t D) : wp S 96 0 [some qx, some (qi k)] [] t D Q := by
  apply lb96_0
  generalize (747796405 : Int) * (k + 1) = z
  have h2 : ((S.2 : Nat) : Int) ≤ 260 := Int.ofNat_le.mpr hS
  have h3 : 0 ≤ ((S.2 : Nat) : Int) := Int.natCast_nonneg _
  generalize ((S.2 : Nat) : Int) = y at h2 h3
  refine chk_i (by omega) ?_
  refine chk_i ⟨by omega, by omega⟩ ?_
  exact ite_i (fun h => chk_i ⟨hk.1, h, by omega⟩ (q _)) fun _ => q _
theorem r97 {x n : Int} (hn : 0 < n ∧ n < 2147483648) (q : ∀ v, 0 ≤ v → v < n → Q v t D) : wp S 97 0 [some (qi x), some (qi n)] [] t D Q := by
  refine lb97_0 (chk_i (qusr_r (by decide)) (chk_i hn (q _ (Int.emod_nonneg _ (by omega)) (Int.emod_lt_of_pos _ hn.1))))
theorem r99 {k : Int} (hk : 0 ≤ k ∧ k ≤ 4) (q : ∀ c, zKind c = k → 97 ≤ c → c ≤ 117 → Q c t D) : wp S 99 0 [some (qi k)] [] t D Q := by
  refine lb99_0 (chk_i (by omega) (ite_i (fun h => q _ (by rw [h]; rfl) (by decide) (by decide)) fun h0 => chk_i (by omega) (ite_i (fun h => q _ (by rw [h]; rfl) (by decide) (by decide)) fun h1 => chk_i (by omega) (ite_i (fun h => q _ (by rw [h]; rfl) (by decide) (by decide)) fun h2 => chk_i (by omega) (ite_i (fun h => q _ (by rw [h]; rfl) (by decide) (by decide)) fun h3 => q _ ?_ (by decide) (by decide))))))
  rw [show k = 4 by omega]; rfl
theorem r105 {k o ty : Int} (hk : 0 ≤ k ∧ k ≤ 4) (ho : qR o) (ht : qR ty) (q : Q (sDoes k o ty) t D) : wp S 105 0 [some (qi k), some (qi o), some (qi ty)] [] t D Q := by
  unfold sDoes at q
  refine lb105_0 (chk_i (by omega) (ite_i (fun h => ?_) fun h1 => chk_i (by omega) (ite_i (fun h => ?_) fun h2 => chk_i (by omega) (ite_i (fun h => chk_i ht (chk_i ho (ite_i (fun h3 => ?_) fun h3 => ?_))) fun h3 => chk_i ht (chk_i ho (ite_i (fun h4 => ?_) fun h4 => chk_i (by omega) (ite_i (fun h5 => ?_) fun h5 => ?_)))))))
  · rwa [if_pos h] at q
  · rwa [if_neg h1, if_pos h] at q
  · rwa [if_neg h1, if_neg h2, if_pos h, if_pos h3] at q
  · rwa [if_neg h1, if_neg h2, if_pos h, if_neg h3] at q
  · rwa [if_neg h1, if_neg h2, if_neg h3, if_pos h4] at q
  · rwa [if_neg h1, if_neg h2, if_neg h3, if_neg h4, if_pos h5] at q
  · rwa [if_neg h1, if_neg h2, if_neg h3, if_neg h4, if_neg h5] at q
theorem r115 {s : Int} (h : 0 ≤ s ∧ s < 2147483648) (q : Q (dS s) t D) : wp S 115 0 [some (ql s), none] [] t D Q := by
  refine lb115_0 (chk_i ⟨by omega, by omega⟩ ?_)
  unfold dS at q
  rwa [Int.mul_comm s]
/-- copy -/
theorem r110_2 {am aw : Nat} {n : Int} {D0 : qD} (hn : 0 ≤ n ∧ n < 1000) (hm : (t.1 am).1 = 10 ∧ n ≤ (t.1 am).2) (hw : (t.1 aw).1 = 10 ∧ n ≤ (t.1 aw).2) (hne : am ≠ aw) : ∀ (m : Nat) (j : Int) (D : qD), j + m = n → 0 ≤ j → (∀ b, b ≠ am → D b = D0 b) → (∀ i, 0 ≤ i → i < j → D am i = D0 aw i) → (∀ D', (∀ b, b ≠ am → D' b = D0 b) → (∀ i, 0 ≤ i → i < n → D' am i = D0 aw i) → Q 0 t D') → wp S 110 2 [some (qr am), some (qr aw), some (qi n), some (qi j)] [] t D Q := by
  intro m
  induction m with
  | zero =>
    intro j D hj h0 hD hi q
    exact lb110_2 (chk_i (by omega) (chk_i (by omega) (ite_i (fun h => absurd h (by omega)) fun _ => q D hD fun i a b => hi i a (by omega))))
  | succ m ih =>
    intro j D hj h0 hD hi q
    refine lb110_2 (chk_i (by omega) (chk_i (by omega) (ite_i (fun h => chk_i hw.1 (chk_i (by omega) (chk_i hm.1 (chk_i (by omega) ?_)))) fun h => absurd (show j < n by omega) h)))
    refine ih (j + 1) _ (by omega) (by omega) (fun b hb => by rw [up_eq, upr_n hb]; exact hD b hb) (fun i a b => ?_) q
    rw [up_eq, upr_s]
    by_cases c : i = j
    · rw [c, ui_s, hD aw (fun z => hne z.symm)]
    · rw [ui_n c]; exact hi i a (by omega)
theorem r110 {am aw : Nat} {n : Int} (hn : 0 ≤ n ∧ n < 1000) (hm : (t.1 am).1 = 10 ∧ n ≤ (t.1 am).2) (hw : (t.1 aw).1 = 10 ∧ n ≤ (t.1 aw).2) (hne : am ≠ aw) (q : ∀ D', (∀ b, b ≠ am → D' b = D b) → (∀ i, 0 ≤ i → i < n → D' am i = D aw i) → Q 0 t D') : wp S 110 0 [some (qr am), some (qr aw), some (qi n), none] [] t D Q :=
  lb110_0 (r110_2 hn hm hw hne n.toNat 0 D (by omega) (Int.le_refl _) (fun _ _ => rfl) (fun i a b => by omega) q)
end LA
