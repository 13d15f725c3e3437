/-! ## the class: what a functions' object and a machine of it hold, against the reference's numbers -/
def im (t : qT) (a : Nat) : Prop := a < t.2.2.1 ∧ (15 ≤ a ∧ a < 28 ∨ 34 ≤ a)
def CO (t : qT) (k : Nat) : Prop :=
  ((t.1 k).1 = 0 ∧ im t k) ∧
  ((t.1 (t.2.1 k 1)).1 = 10 ∧ (t.1 (t.2.1 k 1)).2 = 180 ∧ im t (t.2.1 k 1)) ∧
  ((t.1 (t.2.1 k 2)).1 = 10 ∧ (t.1 (t.2.1 k 2)).2 = 72 ∧ im t (t.2.1 k 2)) ∧
  ((t.1 (t.2.1 k 3)).1 = 10 ∧ (t.1 (t.2.1 k 3)).2 = 3 ∧ im t (t.2.1 k 3)) ∧
  ((t.1 (t.2.1 k 4)).1 = 10 ∧ (t.1 (t.2.1 k 4)).2 = 45 ∧ im t (t.2.1 k 4)) ∧
  ((t.1 (t.2.1 k 5)).1 = 10 ∧ (t.1 (t.2.1 k 5)).2 = 3 ∧ im t (t.2.1 k 5))
/-- of the first n ops: how many are saves; how far on they are -/
def svN (op : Int → Int) (f : Int) : Nat → Int
  | 0 => 0
  | n + 1 => svN op f n + if op (24 * f + 3 * n) = 115 then 1 else 0
def adN (op : Int → Int) (f : Int) : Nat → Int
  | 0 => 0
  | n + 1 => adN op f n + if op (24 * f + 3 * n) = 43 then op (24 * f + 3 * n + 1) else 0
def CR (t : qT) (D : qD) (k : Nat) (G : qD) : Prop :=
  D k 0 = G 28 14 ∧
  (∀ f a w, 0 ≤ f → f < G 28 14 → 0 ≤ a → a < 10 → 0 ≤ w → w < 4 → D (t.2.1 k 1) ((f * 10 + a) * 6 + w) = G 34 (40 * f + 4 * a + w)) ∧
  (∀ f a, 0 ≤ f → f < G 28 14 → 0 ≤ a → a < 10 → D (t.2.1 k 1) ((f * 10 + a) * 6 + 4) = G 35 (10 * f + a) ∧ D (t.2.1 k 1) ((f * 10 + a) * 6 + 5) = G 36 (10 * f + a)) ∧
  (∀ f, 0 ≤ f → f < G 28 14 → D (t.2.1 k 5) f = G 38 f) ∧
  (∀ f p w, 0 ≤ f → f < G 28 14 → 0 ≤ p → p < G 38 f → 0 ≤ w → w < 5 → D (t.2.1 k 4) ((f * 3 + p) * 5 + w) = G 40 (15 * f + 5 * p + w)) ∧
  (∀ f, 0 ≤ f → f < G 28 14 → D (t.2.1 k 3) f = svN (G 39) f (G 37 f).toNat) ∧
  (∀ f (n : Nat), 0 ≤ f → f < G 28 14 → n < G 37 f → G 39 (24 * f + 3 * n) = 115 →
    D (t.2.1 k 2) ((f * 8 + svN (G 39) f n) * 3) = adN (G 39) f n ∧ D (t.2.1 k 2) ((f * 8 + svN (G 39) f n) * 3 + 1) = G 39 (24 * f + 3 * n + 1) ∧ D (t.2.1 k 2) ((f * 8 + svN (G 39) f n) * 3 + 2) = G 39 (24 * f + 3 * n + 2))
def MO (t : qT) (a : Nat) : Prop :=
  ((t.1 a).1 = 3 ∧ im t a) ∧ CO t (t.2.1 a 0) ∧
  ((t.1 (t.2.1 a 1)).1 = 10 ∧ (t.1 (t.2.1 a 1)).2 = 9 ∧ im t (t.2.1 a 1)) ∧
  ((t.1 (t.2.1 a 2)).1 = 10 ∧ (t.1 (t.2.1 a 2)).2 = 4 ∧ im t (t.2.1 a 2)) ∧
  ((t.1 (t.2.1 a 3)).1 = 10 ∧ (t.1 (t.2.1 a 3)).2 = 8 ∧ im t (t.2.1 a 3)) ∧
  ((t.1 (t.2.1 a 4)).1 = 10 ∧ (t.1 (t.2.1 a 4)).2 = 8 ∧ im t (t.2.1 a 4)) ∧
  ((t.1 (t.2.1 a 5)).1 = 10 ∧ (t.1 (t.2.1 a 5)).2 = 48 ∧ im t (t.2.1 a 5)) ∧
  ((t.1 (t.2.1 a 6)).1 = 10 ∧ (t.1 (t.2.1 a 6)).2 = 24 ∧ im t (t.2.1 a 6))
def MR (t : qT) (D : qD) (a : Nat) (N : Int → Int) : Prop :=
  (∀ k, 0 ≤ k → k < 9 → D (t.2.1 a 1) k = N k) ∧ (∀ r, 0 ≤ r → r < 4 → D (t.2.1 a 2) r = N (9 + r)) ∧ D a 7 = N 13 ∧
  (∀ l, 0 ≤ l → l < 8 → D (t.2.1 a 3) l = N (14 + 8 * l)) ∧ (∀ l, 0 ≤ l → l < 8 → D (t.2.1 a 4) l = N (14 + 8 * l + 1)) ∧
  (∀ l c, 0 ≤ l → l < 8 → 0 ≤ c → c < 6 → D (t.2.1 a 5) (l * 6 + c) = N (14 + 8 * l + 2 + c)) ∧ D a 8 = N 78 ∧
  (∀ i, 0 ≤ i → i < 24 → D (t.2.1 a 6) i = N (79 + i))
section KA
variable {S : (Nat → Int32) × Nat} {t : qT} {D G : qD} {Q : Int → qT → qD → Prop} {a k : Nat} {N : Int → Int}
theorem c1 {f b w : Int} (h : CO t k) (hi : 0 ≤ (f * 10 + b) * 6 + w ∧ (f * 10 + b) * 6 + w < 180) (q : Q (D (t.2.1 k 1) ((f * 10 + b) * 6 + w)) t D) : wp S 1 0 [some (qr k), some (qi f), some (qi b), some (qi w)] [] t D Q := by
  obtain ⟨h0, h1, h2, h3, h4, h5⟩ := h
  exact b1_0 (chk_i h0.1 (chk_i h1.1 (chk_i (by omega) q)))
theorem c3 {f : Int} (h : CO t k) (hi : 0 ≤ f ∧ f < 3) (q : Q (D (t.2.1 k 5) f) t D) : wp S 3 0 [some (qr k), some (qi f)] [] t D Q := by
  obtain ⟨h0, h1, h2, h3, h4, h5⟩ := h
  exact b3_0 (chk_i h0.1 (chk_i h5.1 (chk_i (by omega) q)))
theorem c5 {f p w : Int} (h : CO t k) (hi : 0 ≤ (f * 3 + p) * 5 + w ∧ (f * 3 + p) * 5 + w < 45) (q : Q (D (t.2.1 k 4) ((f * 3 + p) * 5 + w)) t D) : wp S 5 0 [some (qr k), some (qi f), some (qi p), some (qi w)] [] t D Q := by
  obtain ⟨h0, h1, h2, h3, h4, h5⟩ := h
  exact b5_0 (chk_i h0.1 (chk_i h4.1 (chk_i (by omega) q)))
theorem c7 {f : Int} (h : CO t k) (hi : 0 ≤ f ∧ f < 3) (q : Q (D (t.2.1 k 3) f) t D) : wp S 7 0 [some (qr k), some (qi f)] [] t D Q := by
  obtain ⟨h0, h1, h2, h3, h4, h5⟩ := h
  exact b7_0 (chk_i h0.1 (chk_i h3.1 (chk_i (by omega) q)))
theorem c8 {f s : Int} (h : CO t k) (hi : 0 ≤ (f * 8 + s) * 3 ∧ (f * 8 + s) * 3 + 2 < 72) (q : Q (D (t.2.1 k 2) ((f * 8 + s) * 3)) t D) : wp S 8 0 [some (qr k), some (qi f), some (qi s)] [] t D Q := by
  obtain ⟨h0, h1, h2, h3, h4, h5⟩ := h
  exact b8_0 (chk_i h0.1 (chk_i h2.1 (chk_i (by omega) q)))
theorem c9 {f s : Int} (h : CO t k) (hi : 0 ≤ (f * 8 + s) * 3 ∧ (f * 8 + s) * 3 + 2 < 72) (q : Q (D (t.2.1 k 2) ((f * 8 + s) * 3 + 1)) t D) : wp S 9 0 [some (qr k), some (qi f), some (qi s)] [] t D Q := by
  obtain ⟨h0, h1, h2, h3, h4, h5⟩ := h
  exact b9_0 (chk_i h0.1 (chk_i h2.1 (chk_i (by omega) q)))
theorem c10 {f s : Int} (h : CO t k) (hi : 0 ≤ (f * 8 + s) * 3 ∧ (f * 8 + s) * 3 + 2 < 72) (q : Q (D (t.2.1 k 2) ((f * 8 + s) * 3 + 2)) t D) : wp S 10 0 [some (qr k), some (qi f), some (qi s)] [] t D Q := by
  obtain ⟨h0, h1, h2, h3, h4, h5⟩ := h
  exact b10_0 (chk_i h0.1 (chk_i h2.1 (chk_i (by omega) q)))
theorem c102 {v b : Int} (hv : qR v) (hb : qR b) (q : Q (if 0 ≤ v ∧ v < b then 1 else 0) t D) : wp S 88 0 [some (qi v), some (qi b)] [] t D Q := by
  refine b102_0 (chk_i hv (ite_i (fun h => ?_) fun h => chk_i hv (chk_i hb (ite_i (fun h2 => ?_) fun h2 => ?_))))
  · rwa [if_neg (by omega)] at q
  · rwa [if_pos (by omega)] at q
  · rwa [if_neg (by omega)] at q
theorem c106 {k o ty : Int} (hk : 0 ≤ k ∧ k ≤ 4) (ho : qR o) (ht : qR ty) (h : Q (sDoes k o ty) t D) : wp S 92 0 [some (qi k), some (qi o), some (qi ty)] [] t D Q := by
  unfold sDoes at h
  refine b106_0 (chk_i (by omega) (ite_i (fun h1 => chk_i ht (chk_i ho (ite_i (fun h2 => ?_) fun h2 => ?_))) fun h1 => ite_i (fun h2 => ?_) fun h2 => ite_i (fun h3 => ?_) fun h3 => ite_i (fun h4 => chk_i ht (chk_i ho (ite_i (fun h5 => ?_) fun h5 => ?_))) fun h4 => chk_i ht (chk_i ho (ite_i (fun h5 => ?_) fun h5 => ?_))))
  · rwa [if_neg (by omega), if_neg (by omega), if_neg (by omega), if_pos h2] at h
  · rwa [if_neg (by omega), if_neg (by omega), if_neg (by omega), if_neg h2, if_neg (by omega)] at h
  · rwa [if_pos h2] at h
  · rwa [if_neg h2, if_pos h3] at h
  · rwa [if_neg h2, if_neg h3, if_pos h4, if_pos h5] at h
  · rwa [if_neg h2, if_neg h3, if_pos h4, if_neg h5] at h
  · rwa [if_neg h2, if_neg h3, if_neg h4, if_pos h5] at h
  · rwa [if_neg h2, if_neg h3, if_neg h4, if_neg h5, if_pos (by omega)] at h
theorem c26 {n : Int} (h : MO t a) (q : Q (D a 7 - 1 - n) t D) : wp S 24 0 [some (qr a), some (qi n)] [] t D Q := b26_0 (chk_i h.1.1 q)
/-- what a deed is, by level -/
theorem c35 {l p ty : Int} (hO : MO t a) (hM : MR t D a N) (hK : CR t D (t.2.1 a 0) G) (hC : CVd G) (hV : RVd (G 28 14) N) (hl : 0 ≤ l ∧ l < N 13) (hp : 0 ≤ p ∧ p < G 38 (N (14 + 8 * l))) (ht : 0 ≤ ty ∧ ty ≤ 4)
    (q : Q (sDA (G 40) N (N (14 + 8 * l)) p (N (14 + 8 * l + 1)) ty) t D) : wp S 33 0 [some (qr a), some (qi l), some (qi p), some (qi ty), none, none] [] t D Q := by
  have h8 := hV.1
  have hl2 := hV.2.1 l hl.1 hl.2
  have h1 := hC.1
  have h2 := hC.2.1 _ hl2.1 hl2.2.1
  have h3 := hC.2.2.2.2.2 _ p hl2.1 hl2.2.1 hp.1 hp.2
  have e3 := hM.2.2.2.1 l hl.1 (by omega)
  have e4 := hM.2.2.2.2.1 l hl.1 (by omega)
  have e5 : ∀ w, 0 ≤ w → w < 5 → D (t.2.1 (t.2.1 a 0) 4) ((N (14 + 8 * l) * 3 + p) * 5 + w) = G 40 (15 * N (14 + 8 * l) + 5 * p + w) := fun w x y => hK.2.2.2.2.1 _ p w hl2.1 hl2.2.1 hp.1 hp.2 x y
  have ek := hM.1 (N (14 + 8 * l) * 3 + p) (by omega) (by omega)
  have hk4 := hV.2.2.1 (N (14 + 8 * l) * 3 + p) (by omega) (by omega)
  have hO' := hO
  obtain ⟨o0, oc, o1, o2, o3, o4, o5, o6⟩ := hO
  unfold sDA at q
  rw [show 3 * N (14 + 8 * l) + p = N (14 + 8 * l) * 3 + p by omega] at q
  refine b35_0 (chk_i o0.1 (chk_i o3.1 (chk_i (by omega) (chk_i o0.1 (chk_i o4.1 (chk_i (by omega) (chk_i o0.1 (chk_i oc.1.1 ?_))))))))
  rw [e3, e4]
  refine c5 oc (by omega) ?_
  rw [e5 1 (by omega) (by omega)]
  refine chk_i (by omega) (chk_i (by omega) (ite_i (fun c => ?_) fun c => chk_i o0.1 (chk_i oc.1.1 (c5 oc (by omega) ?_))))
  · rwa [if_neg (by omega)] at q
  · rw [e5 2 (by omega) (by omega)]
    refine chk_i (by omega) (chk_i (by omega) (ite_i (fun c2 => ?_) fun c2 => ?_))
    · rwa [if_neg (by omega)] at q
    · rw [if_pos (by omega)] at q
      refine chk_i o0.1 (b103_0 ?_)
      refine chk_i o1.1 (chk_i (by omega) (chk_i o0.1 (chk_i oc.1.1 (c5 oc (by omega) ?_))))
      rw [e5 3 (by omega) (by omega), ek]
      exact c106 (by omega) (by omega) (by omega) q
theorem c32 {l r v : Int} (hO : MO t a) (hM : MR t D a N) (hK : CR t D (t.2.1 a 0) G) (hC : CVd G) (hV : RVd (G 28 14) N) (hl : 0 ≤ l ∧ l < N 13) (hr : 0 ≤ r ∧ r < 4)
    (q : Q (sReg (G 34) N (N 13 - 1 - l) r v) t D) : wp S 30 0 [some (qr a), some (qi l), some (qi r), some (qi v), none] [] t D Q := by
  have h8 := hV.1
  have hl2 := hV.2.1 l hl.1 hl.2
  have h1 := hC.1
  have e3 := hM.2.2.2.1 l hl.1 (by omega)
  have e4 := hM.2.2.2.2.1 l hl.1 (by omega)
  have er := hK.2.1 (N (14 + 8 * l)) (N (14 + 8 * l + 1)) r hl2.1 hl2.2.1 hl2.2.2.1 (by omega) hr.1 hr.2
  have hc := hC.2.2.2.1 (40 * N (14 + 8 * l) + 4 * N (14 + 8 * l + 1) + r) (by omega) (by omega)
  obtain ⟨o0, oc, o1, o2, o3, o4, o5, o6⟩ := hO
  have es : sAt N (N 13 - 1 - l) = 14 + 8 * l := by unfold sAt; omega
  unfold sReg sCell at q
  rw [es] at q
  refine b32_0 (chk_i o0.1 (chk_i o0.1 (chk_i o3.1 (chk_i (by omega) (chk_i o0.1 (chk_i o4.1 (chk_i (by omega) (chk_i oc.1.1 ?_))))))))
  rw [e3, e4]
  refine c1 oc (by omega) ?_
  rw [er]
  refine chk_i (by omega) (ite_i (fun c => ?_) fun c => chk_i o0.1 (chk_i o5.1 (chk_i (by omega) ?_)))
  · rwa [if_pos c] at q
  · rw [if_neg c] at q
    rw [hM.2.2.2.2.2.1 l _ (by omega) (by omega) (by omega) (by omega)]
    exact q
def sCl (sv N : Int → Int) (r : Int) : Nat → Int → Int → Int
  | 0, _, v => v
  | k + 1, n, v => sCl sv N r k (n + 1) (sReg sv N n r v)
theorem c33_15 {r low : Int} (hO : MO t a) (hM : MR t D a N) (hK : CR t D (t.2.1 a 0) G) (hC : CVd G) (hV : RVd (G 28 14) N) (hr : 0 ≤ r ∧ r < 4) (hlo : 0 ≤ low ∧ low < N 13) :
    ∀ (m : Nat) (l v : Int), m = l + 1 - low → l < N 13 → low ≤ l + 1 →
    Q (sCl (G 34) N r m (N 13 - 1 - l) v) t D → wp S 31 15 [some (qr a), some (qi low), some (qi r), some (qi v), some (qi l)] [] t D Q := by
  have h8 := hV.1
  intro m
  induction m with
  | zero =>
    intro l v hm hl1 hl2 q
    exact b33_15 (chk_i (by omega) (chk_i (by omega) (ite_i (fun c => q) fun c => absurd c (by omega))))
  | succ m ih =>
    intro l v hm hl1 hl2 q
    refine b33_15 (chk_i (by omega) (chk_i (by omega) (ite_i (fun c => absurd c (by omega)) fun c => chk_i (by omega) (ite_i (fun c2 => absurd c2 (by omega)) fun c2 => chk_i hO.1.1 (c32 hO hM hK hC hV ⟨by omega, hl1⟩ hr ?_)))))
    refine ih (l + -1) _ (by omega) (by omega) (by omega) ?_
    rw [show N 13 - 1 - (l + -1) = N 13 - 1 - l + 1 by omega]
    exact q
theorem c33 {r n : Int} (hO : MO t a) (hM : MR t D a N) (hK : CR t D (t.2.1 a 0) G) (hC : CVd G) (hV : RVd (G 28 14) N) (hr : 0 ≤ r ∧ r < 4) (hn : 0 ≤ n ∧ n < N 13)
    (q : Q (sCl (G 34) N r (n + 1).toNat 0 (N (9 + r))) t D) : wp S 31 0 [some (qr a), some (qi (N 13 - 1 - n)), some (qi r), none, none] [] t D Q := by
  have e2 := hM.2.1 r hr.1 hr.2
  have e7 := hM.2.2.1
  obtain ⟨o0, oc, o1, o2, o3, o4, o5, o6⟩ := id hO
  refine b33_0 (chk_i o0.1 (chk_i o2.1 (chk_i (by omega) (chk_i o0.1 ?_))))
  rw [e2, e7]
  refine c33_15 hO hM hK hC hV hr (by omega) (n + 1).toNat _ _ (by omega) (by omega) (by omega) ?_
  rw [show N 13 - 1 - (N 13 - 1) = 0 by omega]
  exact q
/-- the catcher of the reference, as the class tells it -/
def sCat3 (x : Int × (Int × Int)) : Int := if x.1 = -1 then -1 else 3 * x.1 + x.2.1
theorem c34_19 {n ty : Int} (hO : MO t a) (hM : MR t D a N) (hK : CR t D (t.2.1 a 0) G) (hC : CVd G) (hV : RVd (G 28 14) N) (ht : 0 ≤ ty ∧ ty ≤ 4) (hn : 0 ≤ n ∧ n < N 13) :
    ∀ (m : Nat) (p fin : Int), p + m = 3 → 0 ≤ p →
    ((sLp (G 38) (G 40) N n ty m p fin).1 = -1 → ∀ o4, wp S 32 2 [some (qr a), some (qi ty), some (qi (n + 1)), some (qi (N 13 - 1 - n)), o4] [] t D Q) →
    (¬ (sLp (G 38) (G 40) N n ty m p fin).1 = -1 → Q (3 * n + (sLp (G 38) (G 40) N n ty m p fin).1) t D) →
    wp S 32 19 [some (qr a), some (qi ty), some (qi n), some (qi (N 13 - 1 - n)), some (qi p)] [] t D Q := by
  have h8 := hV.1
  have hl2 := hV.2.1 (N 13 - 1 - n) (by omega) (by omega)
  have h1 := hC.1
  have h2 := hC.2.1 _ hl2.1 hl2.2.1
  have e3 := hM.2.2.2.1 (N 13 - 1 - n) (by omega) (by omega)
  have e5 := hK.2.2.2.1 _ hl2.1 hl2.2.1
  have ea : sAt N n = 14 + 8 * (N 13 - 1 - n) := rfl
  obtain ⟨o0, oc, o1, o2, o3, o4, o5, o6⟩ := id hO
  intro m
  induction m with
  | zero =>
    intro p fin hm hp q1 q2
    refine b34_19 (chk_i o0.1 (chk_i o0.1 (chk_i o3.1 (chk_i (by omega) (chk_i oc.1.1 ?_)))))
    rw [e3]
    refine c3 oc (by omega) ?_
    rw [e5]
    exact chk_i (by omega) (chk_i (by omega) (ite_i (fun c => absurd c (by omega)) fun c => q1 rfl _))
  | succ m ih =>
    intro p fin hm hp q1 q2
    refine b34_19 (chk_i o0.1 (chk_i o0.1 (chk_i o3.1 (chk_i (by omega) (chk_i oc.1.1 ?_)))))
    rw [e3]
    refine c3 oc (by omega) ?_
    rw [e5]
    have hr := sDA_r (G 40) N (N (14 + 8 * (N 13 - 1 - n))) p (N (14 + 8 * (N 13 - 1 - n) + 1)) ty
    unfold sLp at q1 q2
    rw [ea] at q1 q2
    refine chk_i (by omega) (chk_i (by omega) (ite_i (fun c => chk_i o0.1 (c35 hO hM hK hC hV (by omega) ⟨hp, c⟩ ht (chk_i (by omega) (ite_i (fun c2 => ?_) fun c2 => ?_)))) fun c => ?_))
    · rw [if_pos c, if_pos c2] at q2
      have := q2 (by show ¬ p = -1; omega)
      rw [show n * 3 + p = 3 * n + p by omega]
      exact this
    · rw [if_pos c, if_neg c2] at q1 q2
      by_cases c3 : sDA (G 40) N (N (14 + 8 * (N 13 - 1 - n))) p (N (14 + 8 * (N 13 - 1 - n) + 1)) ty = 2
      · rw [if_pos c3] at q1 q2
        exact ih (p + 1) (fin + 1) (by omega) (by omega) q1 q2
      · rw [if_neg c3] at q1 q2
        exact ih (p + 1) fin (by omega) (by omega) q1 q2
    · rw [if_neg c] at q1
      exact q1 rfl _
theorem c34_2 {ty : Int} (hO : MO t a) (hM : MR t D a N) (hK : CR t D (t.2.1 a 0) G) (hC : CVd G) (hV : RVd (G 28 14) N) (ht : 0 ≤ ty ∧ ty ≤ 4) :
    ∀ (m : Nat) (n fin : Int) (o3 o4 : Option qV), n + m = 8 → 0 ≤ n → 0 ≤ fin → Q (sCat3 (sLc (G 38) (G 40) N ty m n fin)) t D →
    wp S 32 2 [some (qr a), some (qi ty), some (qi n), o3, o4] [] t D Q := by
  have h8 := hV.1
  have e7 := hM.2.2.1
  intro m
  induction m with
  | zero =>
    intro n fin o3 o4 hm hn hf q
    refine b34_2 (chk_i hO.1.1 (chk_i (by omega) ?_))
    rw [e7]
    exact chk_i (by omega) (ite_i (fun c => absurd c (by omega)) fun c => q)
  | succ m ih =>
    intro n fin o3 o4 hm hn hf q
    refine b34_2 (chk_i hO.1.1 (chk_i (by omega) ?_))
    rw [e7]
    have hp := sLp_r (G 38) (G 40) N n ty 3 0 fin (by omega) (by omega) hf
    unfold sLc at q
    refine chk_i (by omega) (ite_i (fun c => chk_i hO.1.1 (c26 hO ?_)) fun c => ?_)
    · rw [if_pos c] at q
      rw [e7]
      refine c34_19 hO hM hK hC hV ht ⟨hn, c⟩ 3 0 fin rfl (Int.le_refl _) (fun c2 o4 => ?_) fun c2 => ?_
      · rw [if_pos c2] at q
        exact ih (n + 1) _ _ _ (by omega) (by omega) (Int.le_trans hf hp.2.1) q
      · rw [if_neg c2] at q
        unfold sCat3 at q
        rw [if_neg (by show ¬ n = -1; omega)] at q
        exact q
    · rw [if_neg c] at q
      exact q
theorem c34 {ty : Int} (hO : MO t a) (hM : MR t D a N) (hK : CR t D (t.2.1 a 0) G) (hC : CVd G) (hV : RVd (G 28 14) N) (ht : 0 ≤ ty ∧ ty ≤ 4)
    (q : Q (sCat3 (sCat (G 38) (G 40) N ty)) t D) : wp S 32 0 [some (qr a), some (qi ty), none, none, none] [] t D Q :=
  b34_0 (c34_2 hO hM hK hC hV ht 8 0 0 _ _ rfl (Int.le_refl _) (Int.le_refl _) q)
end KA
