/-! ## the reference: search, loose, image, restore, digest -/
def vSea (D : qD) (ty w : Int) : Int := if (sCat (D 38) (D 40) (D 42) ty).1 = -1 then -1 else if w = 0 then (sCat (D 38) (D 40) (D 42) ty).1 else if w = 1 then (sCat (D 38) (D 40) (D 42) ty).2.1 else (sCat (D 38) (D 40) (D 42) ty).2.2
def vSearch (D : qD) (ty w : Int) : Int := if ¬ (0 ≤ ty ∧ ty ≤ 4) then -102 else if ¬ (0 ≤ w ∧ w ≤ 2) then -102 else if D 28 14 = 0 then -103 else vSea D ty w
def sLo (D : qD) : Nat → Int → Int → Int
  | 0, _, b => b
  | k + 1, ty, b => sLo D k (ty + 1) (if (sCat (D 38) (D 40) (D 42) ty).1 = -1 then qor b (qshl 1 ty) else b)
def vLoose (D : qD) : Int := if D 28 14 = 0 then -103 else sLo D 5 0 0
def pImage (D : qD) : Int × qD := if D 28 14 = 0 then (-103, D) else (D 42 13, upr (upr (upr (upr D 46 (cpf (D 46) (D 42) 0 110)) 47 (cpf (D 47) (D 43) 0 3300)) 48 (cpf (D 48) (D 44) 0 24)) 28 (ui (ui (ui (D 28) 36 (D 28 27)) 37 (D 28 31)) 35 (D 28 15)))
def pRestore (D : qD) : Int × qD := if ¬ D 28 35 = D 28 15 then (-103, D) else (D 46 13, upr (upr (upr (upr D 42 (cpf (D 42) (D 46) 0 110)) 43 (cpf (D 43) (D 47) 0 3300)) 44 (cpf (D 44) (D 48) 0 24)) 28 (ui (ui (D 28) 27 (D 28 36)) 31 (D 28 37)))
def hs (v : Int → Int) : Nat → Int → Int → Int
  | 0, _, h => h
  | k + 1, i, h => hs v k (i + 1) (31 * h + v i)
def hPads (D : qD) (f : Int) : Nat → Int → Int → Int
  | 0, _, h => h
  | k + 1, p, h => if p < D 38 f then hPads D f k (p + 1) (hs (vTellPad D f p) 7 0 h) else h
def hFs (D : qD) : Nat → Int → Int → Int
  | 0, _, h => h
  | k + 1, f, h => if f < D 28 14 then hFs D k (f + 1) (hPads D f 3 0 (hs (fun i => vTellRow D f (i / 6) (i % 6)) 60 0 h)) else h
def hFr (D : qD) : Nat → Int → Int → Int
  | 0, _, h => h
  | k + 1, n, h => if n < D 42 13 then hFr D k (n + 1) (hs (vTellFrame D n) 12 0 h) else h
def hTx (D : qD) (h : Int) : Int := 31 * hs (fun i => vSea D (i / 3) (i % 3)) 15 0 h + sLo D 5 0 0
def hA (D : qD) : Int := hs (fun r => D 42 (9 + r)) 4 0 (hFr D 8 0 (hFs D 3 0 1399))
def hB (D : qD) : Int := 31 * (if D 28 14 = 0 then hA D else hTx D (hA D)) + D 42 78
def vDigest (D : qD) : Int := hs (vCount D) 8 0 (hs (D 29) (D 28 1).toNat 0 (hs (fun i => D 42 (79 + i)) (D 42 78).toNat 0 (hB D)))
def QH (D E : qD) (h : Int) : Prop := (∀ a, a ≠ 28 → E a = D a) ∧ (∀ i, i ≠ 28 → i ≠ 29 → i ≠ 30 → i ≠ 41 → E 28 i = D 28 i) ∧ E 28 41 = h
section RH
variable {S : (Nat → Int32) × Nat} {t : qT} {D : qD} {Q : Int → qT → qD → Prop}
theorem vSea_R (hV : RVd (D 28 14) (D 42)) (ty w : Int) : qR (vSea D ty w) := by
  have hr := sCat_r (D 38) (D 40) (D 42) ty
  have := hV.1
  unfold vSea
  (repeat' split) <;> omega
theorem c148 {ty w : Int} (ht : qR ty) (hw : qR w) (h : RVs D) (k : ∀ E, SQ D E → Q (vSearch D ty w) t E) : wp S 148 0 [some (qs 28), some (qi ty), some (qi w)] [] t D Q := by
  unfold vSearch at k
  refine b148_0 (chk_i ht (c110 ht (by omega) (by omega) (chk_i tfR (tf (fun c => chk_i hw (c110 hw (by omega) (by omega) (chk_i tfR (tf (fun c2 => c128 h.1.1 (chk_i tfR (tf (fun c3 => ?_) fun c3 => c147 c c2 h.1 h.2.1 ?_))) fun c2 => ?_)))) fun c => ?_))))
  · rw [if_neg (fun z => z c), if_neg (fun z => z c2), if_pos c3] at k; exact k _ SQ.rfl'
  · rw [if_neg (fun z => z c), if_neg (fun z => z c2), if_neg c3] at k; exact k _ SQ.s28
  · rw [if_neg (fun z => z c), if_pos c2] at k; exact k _ SQ.rfl'
  · rw [if_pos c] at k; exact k _ SQ.rfl'
theorem c152_4 (hC : CVd D) (hV : RVd (D 28 14) (D 42)) : ∀ (m : Nat) (ty b : Int) (R : Int → Int), ty + m = 5 → 0 ≤ ty → qR b → R 14 = D 28 14 → (∀ c p f, s28 R c p f = s28 (D 28) c p f) →
    (∀ c p f, Q (sLo D m ty b) t (upr D 28 (s28 (D 28) c p f))) → Q (sLo D m ty b) t (upr D 28 R) →
    wp S 152 4 [some (qs 28), some (qi b), some (qi ty)] [] t (upr D 28 R) Q := by
  intro m
  induction m with
  | zero =>
    intro ty b R hm h0 hb hR hs q1 q2
    exact b152_4 (chk_i (by omega) (ite_i (fun c => absurd c (by omega)) fun c => q2))
  | succ m ih =>
    intro ty b R hm h0 hb hR hs q1 q2
    have hr := sCat_r (D 38) (D 40) (D 42) ty
    have h13 := hV.1
    unfold sLo at q1
    refine b152_4 (chk_i (by omega) (ite_i (fun c => c147 (by omega) (by omega) (hC.sc (SC.u28 hR)) ?_ ?_) fun c => absurd c (by omega)))
    · show RVd (R 14) (D 42); rw [hR]; exact hV
    · simp only [upr_s, upr_u, upr_b, Nat.reduceBEq, if_true]
      rw [hs]
      have e : (if (sCat (D 38) (D 40) (D 42) ty).1 = -1 then -1 else (sCat (D 38) (D 40) (D 42) ty).1) = (sCat (D 38) (D 40) (D 42) ty).1 := by
        by_cases c : (sCat (D 38) (D 40) (D 42) ty).1 = -1
        · rw [if_pos c, c]
        · rw [if_neg c]
      rw [e]
      refine chk_i (by omega) (ite_i (fun c => ?_) fun c => ?_)
      · rw [if_pos c] at q1
        exact ih (ty + 1) _ _ (by omega) (by omega) qor_R rfl (fun _ _ _ => s28_u _ _ _ _ _ _ _) q1 (q1 _ _ _)
      · rw [if_neg c] at q1
        rw [qor_0 hb]
        exact ih (ty + 1) _ _ (by omega) (by omega) hb rfl (fun _ _ _ => s28_u _ _ _ _ _ _ _) q1 (q1 _ _ _)
theorem c152 (hC : CVd D) (hV : RVd (D 28 14) (D 42)) (k : Q (sLo D 5 0 0) t D) (k2 : ∀ c p f, Q (sLo D 5 0 0) t (upr D 28 (s28 (D 28) c p f))) : wp S 152 0 [some (qs 28), none, none] [] t D Q := by
  refine b152_0 ?_
  have := c152_4 (S := S) (t := t) (Q := Q) hC hV 5 0 0 (D 28) rfl (Int.le_refl _) (by omega) rfl (fun _ _ _ => rfl) k2 (by rw [upr_id]; exact k)
  rwa [upr_id] at this
theorem c153 (h : RVs D) (k : ∀ E, SQ D E → Q (vLoose D) t E) : wp S 153 0 [some (qs 28)] [] t D Q := by
  unfold vLoose at k
  refine b153_0 (c128 h.1.1 (chk_i tfR (tf (fun c => ?_) fun c => c152 h.1 h.2.1 ?_ ?_)))
  · rw [if_pos c] at k; exact k _ SQ.rfl'
  · rw [if_neg c] at k; exact k _ SQ.rfl'
  · rw [if_neg c] at k; exact fun c p f => k _ SQ.s28
theorem c124_2 {a b : Nat} {n : Int} (ha : (qsT a).1 = 10 ∧ (qsT a).2 = n) (hb : (qsT b).1 = 10 ∧ (qsT b).2 = n) (hab : a ≠ b) (hn : n < 2147483648) : ∀ (m : Nat) (i : Int), i + m = n → 0 ≤ i →
    Q 0 t (upr D b (cpf (D b) (D a) 0 n)) → wp S 124 2 [some (qs a), some (qs b), some (qi i)] [] t (upr D b (cpf (D b) (D a) 0 i)) Q := by
  intro m
  induction m with
  | zero =>
    intro i hm hi q
    obtain rfl : i = n := by omega
    exact b124_2 (chk_i ha.1 (chk_i (by omega) (chk_i (by omega) (ite_i (fun c => absurd c (by omega)) fun c => q))))
  | succ m ih =>
    intro i hm hi q
    refine b124_2 (chk_i ha.1 (chk_i (by omega) (chk_i (by omega) (ite_i (fun c => chk_i ha.1 (chk_i (by omega) (chk_i hb.1 (chk_i (by omega) ?_)))) fun c => absurd c (by omega)))))
    rw [up_eq, upr_u, upr_s, upr_n hab, cpf_s (by omega)]
    exact ih (i + 1) (by omega) (by omega) q
theorem c124 {a b : Nat} (n : Int) (ha : (qsT a).1 = 10 ∧ (qsT a).2 = n) (hb : (qsT b).1 = 10 ∧ (qsT b).2 = n) (hab : a ≠ b) (hn : 0 ≤ n ∧ n < 2147483648) (q : Q 0 t (upr D b (cpf (D b) (D a) 0 n))) : wp S 124 0 [some (qs a), some (qs b), none] [] t D Q := by
  refine b124_0 ?_
  have := c124_2 (S := S) (t := t) (D := D) (Q := Q) ha hb hab hn.2 n.toNat 0 (by omega) (Int.le_refl _) q
  rwa [cpf_0, upr_id] at this
theorem c177 (h : RVs D) (k : Q (pImage D).1 t (pImage D).2) : wp S 177 0 [some (qs 28)] [] t D Q := by
  unfold pImage at k
  refine b177_0 (c128 h.1.1 (chk_i tfR (tf (fun c => ?_) fun c => ?_)))
  · rwa [if_pos c] at k
  · rw [if_neg c] at k
    refine c124 110 ⟨rfl, rfl⟩ ⟨rfl, rfl⟩ (by decide) (by decide) (c124 3300 ⟨rfl, rfl⟩ ⟨rfl, rfl⟩ (by decide) (by decide) (c124 24 ⟨rfl, rfl⟩ ⟨rfl, rfl⟩ (by decide) (by decide) (c133 ?_)))
    simp only [up_eq, upr_u, upr_s, upr_b, Nat.reduceBEq]
    exact k
theorem c178 (h : RVs D) (h35 : qR (D 28 35)) (k : Q (pRestore D).1 t (pRestore D).2) : wp S 178 0 [some (qs 28)] [] t D Q := by
  have h15 := h.2.2.2.2.2.1
  unfold pRestore at k
  refine b178_0 (chk_i h35 (chk_i (by omega) (ite_i (fun c => ?_) fun c => ?_)))
  · rw [if_neg (fun z => z c)] at k
    refine c124 110 ⟨rfl, rfl⟩ ⟨rfl, rfl⟩ (by decide) (by decide) (c124 3300 ⟨rfl, rfl⟩ ⟨rfl, rfl⟩ (by decide) (by decide) (c124 24 ⟨rfl, rfl⟩ ⟨rfl, rfl⟩ (by decide) (by decide) (c133 ?_)))
    simp only [up_eq, upr_u, upr_s, upr_b, Nat.reduceBEq]
    rw [cpf_y (i := 13) (by decide)]
    exact k
  · rwa [if_pos c] at k
theorem QH.upd {E : qD} {h x : Int} (q : QH D E h) : QH D (up E 28 41 x) x := by
  obtain ⟨q1, q2, q3⟩ := q
  rw [up_eq]
  refine ⟨fun a ha => (upr_n ha).trans (q1 a ha), fun i a b c d => ?_, ?_⟩
  · rw [upr_s, ui_n d]; exact q2 i a b c d
  · rw [upr_s, ui_s]
theorem QH.q28 {E : qD} {h c p f : Int} (q : QH D E h) : QH D (upr E 28 (s28 (E 28) c p f)) h := by
  obtain ⟨q1, q2, q3⟩ := q
  refine ⟨fun a ha => (upr_n ha).trans (q1 a ha), fun i a b c d => ?_, ?_⟩
  · rw [upr_s]; unfold s28; rw [if_neg a, if_neg b, if_neg c]; exact q2 i a b c d
  · rw [upr_s]; exact q3
theorem c183 {E : qD} {h v : Int} (q : QH D E h) (k : ∀ E', QH D E' (31 * h + v) → Q 0 t E') : wp S 183 0 [some (qs 28), some (ql v), none] [] t E Q := by
  refine b183_0 (k _ ?_)
  rw [q.2.2]
  exact q.upd
theorem CVd.qh {E : qD} {h : Int} (hC : CVd D) (q : QH D E h) : CVd E := hC.sc ⟨q.2.1 14 (by decide) (by decide) (by decide) (by decide), q.1 _ (by decide), q.1 _ (by decide), q.1 _ (by decide), q.1 _ (by decide), q.1 _ (by decide), q.1 _ (by decide), q.1 _ (by decide)⟩
theorem QH.e {E : qD} {h : Int} (q : QH D E h) : E 28 14 = D 28 14 ∧ E 28 27 = D 28 27 ∧ E 28 31 = D 28 31 ∧ E 28 1 = D 28 1 ∧ E 28 15 = D 28 15 :=
  ⟨q.2.1 14 (by decide) (by decide) (by decide) (by decide), q.2.1 27 (by decide) (by decide) (by decide) (by decide), q.2.1 31 (by decide) (by decide) (by decide) (by decide), q.2.1 1 (by decide) (by decide) (by decide) (by decide), q.2.1 15 (by decide) (by decide) (by decide) (by decide)⟩
theorem RVs.qh {E : qD} {h : Int} (r : RVs D) (q : QH D E h) : RVs E := by
  obtain ⟨e1, e2, e3, e4, e5⟩ := q.e
  refine ⟨r.1.qh q, ?_⟩
  rw [e1, e2, e3, e4, e5, q.1 42 (by decide), q.1 44 (by decide), q.1 29 (by decide)]
  exact r.2
theorem QH.row {E : qD} {h : Int} (q : QH D E h) : vTellRow E = vTellRow D := by
  funext f b w; unfold vTellRow; rw [q.1 34 (by decide), q.1 35 (by decide), q.1 36 (by decide)]
theorem QH.pad {E : qD} {h : Int} (q : QH D E h) : vTellPad E = vTellPad D := by
  funext f p w; unfold vTellPad vAsk vSorts; rw [q.1 42 (by decide), q.1 40 (by decide), q.1 44 (by decide), q.e.2.2.1]
theorem QH.frame {E : qD} {h : Int} (q : QH D E h) : vTellFrame E = vTellFrame D := by
  funext n w; unfold vTellFrame; rw [q.1 42 (by decide), q.1 34 (by decide)]
theorem QH.sea {E : qD} {h : Int} (q : QH D E h) : vSea E = vSea D := by
  funext n w; unfold vSea; rw [q.1 42 (by decide), q.1 38 (by decide), q.1 40 (by decide)]
theorem QH.lo {E : qD} {h : Int} (q : QH D E h) : ∀ (m : Nat) (ty b : Int), sLo E m ty b = sLo D m ty b := by
  intro m
  induction m with
  | zero => intro ty b; rfl
  | succ m ih => intro ty b; unfold sLo; rw [q.1 42 (by decide), q.1 38 (by decide), q.1 40 (by decide)]; exact ih _ _
theorem QH.count {E : qD} {h : Int} (q : QH D E h) : vCount E = vCount D := by
  obtain ⟨e1, e2, e3, e4, e5⟩ := q.e
  funext w; unfold vCount; rw [e1, e2, e3, e4, e5, q.1 38 (by decide), q.1 42 (by decide), q.1 34 (by decide)]
theorem vTellRow_R (hC : CVd D) {f b w : Int} (hf : 0 ≤ f ∧ f < D 28 14) (hb : 0 ≤ b ∧ b ≤ 9) (hw : 0 ≤ w ∧ w ≤ 5) : qR (vTellRow D f b w) := by
  have h1 := hC.1
  unfold vTellRow
  split
  · have := hC.2.2.2.2.1 (10 * f + b) (by omega) (by omega); omega
  · split
    · have := hC.2.2.2.2.1 (10 * f + b) (by omega) (by omega); omega
    · have := hC.2.2.2.1 (40 * f + 4 * b + w) (by omega) (by omega); omega
theorem vTellPad_R (hC : CVd D) (hV : RVd (D 28 14) (D 42)) {f p w : Int} (hf : 0 ≤ f ∧ f < D 28 14) (hp : 0 ≤ p ∧ p < D 38 f) : qR (vTellPad D f p w) := by
  have h1 := hC.1
  have h2 := hC.2.1 f hf.1 hf.2
  have h3 := hC.2.2.2.2.2 f p hf.1 hf.2 hp.1 hp.2
  unfold vTellPad
  split
  · exact hV.2.2.2.2 _ (by omega) (by omega)
  · split
    · have : w = 1 ∨ w = 2 ∨ w = 3 ∨ w = 4 := by omega
      rcases this with rfl | rfl | rfl | rfl <;> omega
    · split
      · exact vSorts_R
      · split
        · have := sBst_r (bits := vSorts D f p) (own := D 40 (15 * f + 5 * p + 3)) 5 0 (-1) 6 (by omega) (by omega)
          unfold vAsk
          omega
        · omega
theorem c184_46 {f p : Int} (h : RVs D) (hf : 0 ≤ f ∧ f < D 28 14) (hp : 0 ≤ p ∧ p < D 38 f) : ∀ (m : Nat) (w x : Int) (E : qD), w + m = 7 → 0 ≤ w → QH D E x →
    (∀ E' o, QH D E' (hs (vTellPad D f p) m w x) → wp S 184 34 [some (qs 28), some (qi f), some (qi (p + 1)), o] [] t E' Q) → wp S 184 46 [some (qs 28), some (qi f), some (qi p), some (qi w)] [] t E Q := by
  intro m
  induction m with
  | zero =>
    intro w x E hm hw qh q
    exact b184_46 (chk_i (by omega) (ite_i (fun c => absurd c (by omega)) fun c => q E _ qh))
  | succ m ih =>
    intro w x E hm hw qh q
    refine b184_46 (chk_i (by omega) (ite_i (fun c => c158 (by omega) (h.qh qh) (by rw [qh.e.1]; exact hf) (by rw [qh.1 38 (by decide)]; exact hp) ?_) fun c => absurd c (by omega)))
    rw [qh.pad]
    exact chk_i (vTellPad_R h.1 h.2.1 hf hp) (c183 qh fun E' q' => ih (w + 1) _ E' (by omega) (by omega) q' q)
theorem c184_34 {f : Int} (h : RVs D) (hf : 0 ≤ f ∧ f < D 28 14) : ∀ (m : Nat) (p x : Int) (E : qD) (o3 : Option qV), p + m = 3 → 0 ≤ p → QH D E x →
    (∀ E', QH D E' (hPads D f m p x) → Q 0 t E') → wp S 184 34 [some (qs 28), some (qi f), some (qi p), o3] [] t E Q := by
  have h1 := h.1.1
  have h2 := h.1.2.1 f hf.1 hf.2
  intro m
  induction m with
  | zero =>
    intro p x E o3 hm hp qh q
    refine b184_34 (chk_i (by omega) ?_)
    rw [qh.1 38 (by decide)]
    exact chk_i (by omega) (chk_i (by omega) (ite_i (fun c => absurd c (by omega)) fun c => q E qh))
  | succ m ih =>
    intro p x E o3 hm hp qh q
    unfold hPads at q
    refine b184_34 (chk_i (by omega) ?_)
    rw [qh.1 38 (by decide)]
    refine chk_i (by omega) (chk_i (by omega) (ite_i (fun c => ?_) fun c => ?_))
    · rw [if_pos c] at q
      exact c184_46 h hf ⟨hp, c⟩ 7 0 x E rfl (Int.le_refl _) qh fun E' o q' => ih (p + 1) _ E' o (by omega) (by omega) q' q
    · rw [if_neg c] at q
      exact q E qh
theorem c184_2 {f : Int} (h : RVs D) (hf : 0 ≤ f ∧ f < D 28 14) : ∀ (m : Nat) (i x : Int) (E : qD), i + m = 60 → 0 ≤ i → QH D E x →
    (∀ E', QH D E' (hPads D f 3 0 (hs (fun i => vTellRow D f (i / 6) (i % 6)) m i x)) → Q 0 t E') → wp S 184 2 [some (qs 28), some (qi f), some (qi i), none] [] t E Q := by
  intro m
  induction m with
  | zero =>
    intro i x E hm hi qh q
    exact b184_2 (chk_i (by omega) (ite_i (fun c => absurd c (by omega)) fun c => c184_34 h hf 3 0 x E none rfl (Int.le_refl _) qh q))
  | succ m ih =>
    intro i x E hm hi qh q
    refine b184_2 (chk_i (by omega) (ite_i (fun c => chk_i (by omega) (chk_i (by omega) (c156 (h.1.qh qh) (by rw [qh.e.1]; exact hf) (by omega) (by omega) ?_))) fun c => absurd c (by omega)))
    rw [qh.row]
    exact chk_i (vTellRow_R h.1 hf (by omega) (by omega)) (c183 qh fun E' q' => ih (i + 1) _ E' (by omega) (by omega) q' q)
theorem c185_2 (h : RVs D) : ∀ (m : Nat) (i x : Int) (E : qD), i + m = 15 → 0 ≤ i → QH D E x →
    (∀ E', QH D E' (31 * hs (fun i => vSea D (i / 3) (i % 3)) m i x + sLo D 5 0 0) → Q 0 t E') → wp S 185 2 [some (qs 28), some (qi i)] [] t E Q := by
  intro m
  induction m with
  | zero =>
    intro i x E hm hi qh q
    refine b185_2 (chk_i (by omega) (ite_i (fun c => absurd c (by omega)) fun c => ?_))
    have hr := h.qh qh
    have sR : ∀ (m : Nat) (ty b : Int), qR b → qR (sLo D m ty b) := by
      intro m
      induction m with
      | zero => intro ty b hb; exact hb
      | succ m ih => intro ty b hb; unfold sLo; refine ih _ _ ?_; split; exact qor_R; exact hb
    refine c152 hr.1 hr.2.1 ?_ fun c p f => ?_
    · rw [qh.lo]
      exact chk_i (sR _ _ _ (by omega)) (c183 qh fun E' q' => q E' q')
    · rw [qh.lo]
      exact chk_i (sR _ _ _ (by omega)) (c183 qh.q28 fun E' q' => q E' q')
  | succ m ih =>
    intro i x E hm hi qh q
    have hr := h.qh qh
    refine b185_2 (chk_i (by omega) (ite_i (fun c => chk_i (by omega) (chk_i (by omega) (c147 (by omega) (by omega) hr.1 hr.2.1 ?_))) fun c => absurd c (by omega)))
    show chk (qR (vSea E (i / 3) (i % 3))) (wp S 183 0 [some (qs 28), some (ql (vSea E (i / 3) (i % 3))), none] [] t _ _)
    rw [qh.sea]
    exact chk_i (vSea_R h.2.1 _ _) (c183 qh.q28 fun E' q' => ih (i + 1) _ E' (by omega) (by omega) q' q)
theorem c186_181 (h : RVs D) : ∀ (m : Nat) (w x : Int) (E : qD) (o : Option qV), w + m = 8 → 0 ≤ w → QH D E x →
    (∀ E', QH D E' (hs (vCount D) m w x) → Q (hs (vCount D) m w x) t E') → wp S 186 181 [some (qs 28), some (qi w), o] [] t E Q := by
  have sv : ∀ (m : Nat) (i s : Int), s ≤ sSvd (D 34) (D 28 14) m i s ∧ sSvd (D 34) (D 28 14) m i s ≤ s + m := by
    intro m
    induction m with
    | zero => intro i s; exact ⟨Int.le_refl _, by show s ≤ s + (0 : Nat); omega⟩
    | succ m ih =>
      intro i s
      unfold sSvd
      split
      · have := ih (i + 1) (s + if sAny (D 34) i 4 0 = true then 1 else 0)
        have e : (0 : Int) ≤ (if sAny (D 34) i 4 0 = true then 1 else 0) ∧ (if sAny (D 34) i 4 0 = true then (1 : Int) else 0) ≤ 1 := by split <;> omega
        omega
      · omega
  have pv : ∀ (m : Nat) (f s : Int), 0 ≤ f → s ≤ sPads (D 38) (D 28 14) m f s ∧ sPads (D 38) (D 28 14) m f s ≤ s + 3 * m := by
    intro m
    induction m with
    | zero => intro f s _; exact ⟨Int.le_refl _, by show s ≤ s + 3 * (0 : Nat); omega⟩
    | succ m ih =>
      intro f s hf
      unfold sPads
      split
      · rename_i c
        have h2 := h.1.2.1 f hf c
        have := ih (f + 1) (s + D 38 f) (by omega)
        omega
      · omega
  intro m
  induction m with
  | zero =>
    intro w x E o hm hw qh q
    refine b186_181 (chk_i (by omega) (ite_i (fun c => absurd c (by omega)) fun c => ?_))
    rw [qh.2.2]
    exact q E qh
  | succ m ih =>
    intro w x E o hm hw qh q
    refine b186_181 (chk_i (by omega) (ite_i (fun c => c181 (by omega) (h.1.qh qh) ?_) fun c => absurd c (by omega)))
    rw [qh.count]
    refine chk_i ?_ (c183 qh fun E' q' => ih (w + 1) _ E' o (by omega) (by omega) q' q)
    have a1 := h.1.1
    have a2 := h.2.1.1
    have a3 := h.2.2.1
    have a4 := h.2.2.2.1
    have a5 := h.2.2.2.2.1
    have a6 := h.2.2.2.2.2.1
    have a7 := sv 30 0 0
    have a8 := pv 3 0 0 (Int.le_refl _)
    unfold vCount
    (repeat' split) <;> omega
theorem c186_154 (h : RVs D) : ∀ (m : Nat) (i x : Int) (E : qD) (o : Option qV), i + m = D 28 1 → 0 ≤ i → QH D E x →
    (∀ E', QH D E' (hs (vCount D) 8 0 (hs (D 29) m i x)) → Q (hs (vCount D) 8 0 (hs (D 29) m i x)) t E') → wp S 186 154 [some (qs 28), some (qi i), o] [] t E Q := by
  have h1 := h.2.2.2.2.1
  intro m
  induction m with
  | zero =>
    intro i x E o hm hi qh q
    refine b186_154 (chk_i (by omega) ?_)
    rw [qh.e.2.2.2.1]
    exact chk_i (by omega) (ite_i (fun c => absurd c (by omega)) fun c => c186_181 h 8 0 x E o rfl (Int.le_refl _) qh q)
  | succ m ih =>
    intro i x E o hm hi qh q
    have hp := h.2.2.2.2.2.2.2 i hi (by omega)
    refine b186_154 (chk_i (by omega) ?_)
    rw [qh.e.2.2.2.1, qh.1 29 (by decide)]
    exact chk_i (by omega) (ite_i (fun c => chk_i (by omega) (chk_i (by omega) (c183 qh fun E' q' => ih (i + 1) _ E' o (by omega) (by omega) q' q))) fun c => absurd c (by omega))
theorem c186_121 (h : RVs D) : ∀ (m : Nat) (i x : Int) (E : qD) (o : Option qV), i + m = D 42 78 → 0 ≤ i → QH D E x →
    (∀ E', QH D E' (hs (vCount D) 8 0 (hs (D 29) (D 28 1).toNat 0 (hs (fun i => D 42 (79 + i)) m i x))) → Q (hs (vCount D) 8 0 (hs (D 29) (D 28 1).toNat 0 (hs (fun i => D 42 (79 + i)) m i x))) t E') → wp S 186 121 [some (qs 28), some (qi i), o] [] t E Q := by
  have h1 := h.2.2.2.2.1
  have h78 := h.2.1.2.2.2.1
  intro m
  induction m with
  | zero =>
    intro i x E o hm hi qh q
    refine b186_121 (chk_i (by omega) ?_)
    rw [qh.1 42 (by decide)]
    exact chk_i (by omega) (ite_i (fun c => absurd c (by omega)) fun c => c186_154 h (D 28 1).toNat 0 x E o (by omega) (Int.le_refl _) qh q)
  | succ m ih =>
    intro i x E o hm hi qh q
    have hp := h.2.1.2.2.2.2 (79 + i) (by omega) (by omega)
    refine b186_121 (chk_i (by omega) ?_)
    rw [qh.1 42 (by decide)]
    exact chk_i (by omega) (ite_i (fun c => chk_i (by omega) (chk_i (by omega) (c183 qh fun E' q' => ih (i + 1) _ E' o (by omega) (by omega) q' q))) fun c => absurd c (by omega))
theorem c186_71 (h : RVs D) : ∀ (m : Nat) (r x : Int) (E : qD) (o : Option qV), r + m = 4 → 0 ≤ r → QH D E x →
    (∀ E' y, y = 31 * (if D 28 14 = 0 then hs (fun r => D 42 (9 + r)) m r x else hTx D (hs (fun r => D 42 (9 + r)) m r x)) + D 42 78 → QH D E' (hs (vCount D) 8 0 (hs (D 29) (D 28 1).toNat 0 (hs (fun i => D 42 (79 + i)) (D 42 78).toNat 0 y))) → Q (hs (vCount D) 8 0 (hs (D 29) (D 28 1).toNat 0 (hs (fun i => D 42 (79 + i)) (D 42 78).toNat 0 y))) t E') → wp S 186 71 [some (qs 28), some (qi r), o] [] t E Q := by
  have h78 := h.2.1.2.2.2.1
  intro m
  induction m with
  | zero =>
    intro r x E o hm hr qh q
    have e0 : hs (fun r => D 42 (9 + r)) 0 r x = x := rfl
    rw [e0] at q
    refine b186_71 (chk_i (by omega) (ite_i (fun c => absurd c (by omega)) fun c => c128 (by rw [qh.e.1]; exact h.1.1) (chk_i tfR ?_)))
    rw [qh.e.1]
    refine tf (fun c2 => ?_) fun c2 => ?_
    · rw [qh.1 42 (by decide)]
      refine chk_i (by omega) (c183 qh fun E' q' => c186_121 h (D 42 78).toNat 0 _ E' o (by omega) (Int.le_refl _) q' fun E2 q2 => q E2 _ (by rw [if_pos c2]) q2)
    · refine b185_0 (c185_2 h 15 0 x E rfl (Int.le_refl _) qh fun E1 q1 => ?_)
      rw [q1.1 42 (by decide)]
      refine chk_i (by omega) (c183 q1 fun E' q' => c186_121 h (D 42 78).toNat 0 _ E' o (by omega) (Int.le_refl _) q' fun E2 q2 => q E2 _ (by rw [if_neg c2]; rfl) q2)
  | succ m ih =>
    intro r x E o hm hr qh q
    have hp := h.2.1.2.2.2.2 (9 + r) (by omega) (by omega)
    refine b186_71 (chk_i (by omega) (ite_i (fun c => ?_) fun c => absurd c (by omega)))
    rw [qh.1 42 (by decide)]
    exact chk_i (by omega) (chk_i (by omega) (c183 qh fun E' q' => ih (r + 1) _ E' o (by omega) (by omega) q' q))
theorem c186_40 {n : Int} (h : RVs D) (hn : 0 ≤ n ∧ n < D 42 13) : ∀ (m : Nat) (w x : Int) (E : qD), w + m = 12 → 0 ≤ w → QH D E x →
    (∀ E' o, QH D E' (hs (vTellFrame D n) m w x) → wp S 186 30 [some (qs 28), some (qi (n + 1)), o] [] t E' Q) → wp S 186 40 [some (qs 28), some (qi n), some (qi w)] [] t E Q := by
  have h13 := h.2.1.1
  have hcl : ∀ (r : Int), 0 ≤ r ∧ r < 4 → ∀ (m : Nat) (i v : Int), 0 ≤ i → i + m ≤ D 42 13 → qR v → qR (sCl (D 34) (D 42) r m i v) := by
    intro r hr m
    induction m with
    | zero => intro i v _ _ hv; exact hv
    | succ m ih =>
      intro i v h0 h1 hv
      unfold sCl
      refine ih _ _ (by omega) (by omega) ?_
      have ha := sAt_r h.2.1 h0 (by omega)
      have h1 := h.1.1
      unfold sReg
      split
      · exact hv
      · have := h.1.2.2.2.1 (40 * D 42 (sAt (D 42) i) + 4 * D 42 (sAt (D 42) i + 1) + r) (by omega) (by omega)
        unfold sCell at *
        exact h.2.1.2.2.2.2 _ (by omega) (by omega)
  intro m
  induction m with
  | zero =>
    intro w x E hm hw qh q
    exact b186_40 (chk_i (by omega) (ite_i (fun c => absurd c (by omega)) fun c => q E _ qh))
  | succ m ih =>
    intro w x E hm hw qh q
    refine b186_40 (chk_i (by omega) (ite_i (fun c => c162 (h.qh qh) (by rw [qh.1 42 (by decide)]; exact hn) (by omega) ?_) fun c => absurd c (by omega)))
    rw [qh.frame]
    refine chk_i ?_ (c183 qh fun E' q' => ih (w + 1) _ E' (by omega) (by omega) q' q)
    have ha := sAt_r h.2.1 hn.1 hn.2
    unfold vTellFrame
    split
    · exact h.2.1.2.2.2.2 _ (by omega) (by omega)
    · exact hcl (w - 8) (by omega) _ _ _ (Int.le_refl _) (by omega) (h.2.1.2.2.2.2 _ (by omega) (by omega))
theorem c186_30 (h : RVs D) : ∀ (m : Nat) (n x : Int) (E : qD) (o : Option qV), n + m = 8 → 0 ≤ n → QH D E x →
    (∀ E' o, QH D E' (hFr D m n x) → wp S 186 71 [some (qs 28), some (qi 0), o] [] t E' Q) → wp S 186 30 [some (qs 28), some (qi n), o] [] t E Q := by
  have h13 := h.2.1.1
  intro m
  induction m with
  | zero =>
    intro n x E o hm hn qh q
    refine b186_30 (c133 ?_)
    rw [qh.1 42 (by decide)]
    exact chk_i (by omega) (chk_i (by omega) (ite_i (fun c => absurd c (by omega)) fun c => q E _ qh))
  | succ m ih =>
    intro n x E o hm hn qh q
    unfold hFr at q
    refine b186_30 (c133 ?_)
    rw [qh.1 42 (by decide)]
    refine chk_i (by omega) (chk_i (by omega) (ite_i (fun c => ?_) fun c => ?_))
    · rw [if_pos c] at q
      exact c186_40 h ⟨hn, c⟩ 12 0 x E rfl (Int.le_refl _) qh fun E' o q' => ih (n + 1) _ E' o (by omega) (by omega) q' q
    · rw [if_neg c] at q
      exact q E _ qh
theorem c186_9 (h : RVs D) : ∀ (m : Nat) (f x : Int) (E : qD), f + m = 3 → 0 ≤ f → QH D E x →
    (∀ E', QH D E' (hFs D m f x) → wp S 186 30 [some (qs 28), some (qi 0), none] [] t E' Q) → wp S 186 9 [some (qs 28), some (qi f), none] [] t E Q := by
  have h1 := h.1.1
  intro m
  induction m with
  | zero =>
    intro f x E hm hf qh q
    refine b186_9 (chk_i (by omega) ?_)
    rw [qh.e.1]
    exact chk_i (by omega) (ite_i (fun c => absurd c (by omega)) fun c => q E qh)
  | succ m ih =>
    intro f x E hm hf qh q
    unfold hFs at q
    refine b186_9 (chk_i (by omega) ?_)
    rw [qh.e.1]
    refine chk_i (by omega) (ite_i (fun c => b184_0 ?_) fun c => ?_)
    · rw [if_pos c] at q
      exact c184_2 h ⟨hf, c⟩ 60 0 x E rfl (Int.le_refl _) qh fun E' q' => ih (f + 1) _ E' (by omega) (by omega) q' q
    · rw [if_neg c] at q
      exact q E qh
theorem QH.sq {E : qD} {h : Int} (q : QH D E h) : SQ D E :=
  ⟨fun a h1 _ _ _ _ _ _ => q.1 a h1, q.e.2.2.2.1, q.e.1, q.e.2.2.2.2, q.e.2.1, q.e.2.2.1, q.2.1 35 (by decide) (by decide) (by decide) (by decide), q.2.1 36 (by decide) (by decide) (by decide) (by decide), q.2.1 37 (by decide) (by decide) (by decide) (by decide)⟩
theorem c186 (h : RVs D) (k : ∀ E, SQ D E → Q (vDigest D) t E) : wp S 186 0 [some (qs 28), none, none] [] t D Q := by
  have h0 : QH D (up D 28 41 1399) 1399 := QH.upd (h := D 28 41) ⟨fun _ _ => rfl, fun _ _ _ _ _ => rfl, rfl⟩
  refine b186_0 (c186_9 h 3 0 1399 _ rfl (Int.le_refl _) h0 fun E1 q1 => c186_30 h 8 0 _ E1 _ rfl (Int.le_refl _) q1 fun E2 o q2 => c186_71 h 4 0 _ E2 o rfl (Int.le_refl _) q2 fun E3 y hy q3 => ?_)
  have : y = hB D := hy
  subst this
  exact k E3 q3.sq
end RH
