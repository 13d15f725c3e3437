/-! ## the reference: drawn -/
def dS (s : Int) : Int := (1103515245 * s + 12345) % 2147483648
def dV (s b : Int) : Int := s / 65536 % b
def dThr (D : qD) (N : Int → Int) (s ty : Int) : (Int → Int) × (Int × Int) :=
  if (sCat (D 38) (D 40) N ty).1 = -1 then (N, (s, 0)) else (sRaise (D 34) (D 38) (D 40) N ty (sCat (D 38) (D 40) N ty).1 (sCat (D 38) (D 40) N ty).2.1, (s, 1))
def dOne (D : qD) (N : Int → Int) (s : Int) : (Int → Int) × (Int × Int) :=
  if dV (dS s) 4 = 0 then (if N 13 < 8 then sCall (D 37) (D 39) N (dV (dS (dS s)) (D 28 14)) else N, (dS (dS s), 0))
  else if dV (dS s) 4 = 1 then (if 0 < N 13 ∧ N (sAt N 0 + 1) < 9 then sStep (D 37) (D 39) N else N, (dS s, 0))
  else if dV (dS s) 4 = 2 then (ui N (9 + dV (dS (dS s)) 4) (dV (dS (dS (dS s))) 1000), (dS (dS (dS s)), 0))
  else dThr D N (dS (dS s)) (dV (dS (dS s)) 5)
def dMany (D : qD) : Nat → (Int → Int) → Int → Int → (Int → Int) × (Int × Int)
  | 0, N, s, o => (N, (s, o))
  | k + 1, N, s, o => dMany D k (dOne D N s).1 (dOne D N s).2.1 (o + (dOne D N s).2.2)
def vDrawn (D : qD) (n s w : Int) : Int := if ¬ (1 ≤ n ∧ n ≤ 99) then -102 else if s < 0 then -102 else if ¬ (0 ≤ w ∧ w ≤ 2) then -102 else if D 28 14 = 0 then -103 else
  if w = 0 then (dMany D n.toNat (D 42) s 0).2.2 else if w = 1 then (dMany D n.toNat (D 42) s 0).1 13 else (dMany D n.toNat (D 42) s 0).2.1
def OUT (D : qD) (N : Int → Int) : Prop := ∀ i, ¬ (0 ≤ i ∧ i < 110) → N i = D 42 i
def QW (D E : qD) (N : Int → Int) (s : Int) : Prop := (∀ a, a ≠ 28 → a ≠ 42 → E a = D a) ∧ (∀ i, i ≠ 28 → i ≠ 29 → i ≠ 30 → i ≠ 33 → E 28 i = D 28 i) ∧ E 42 = N ∧ E 28 33 = s
section RI
variable {S : (Nat → Int32) × Nat} {t : qT} {D : qD} {Q : Int → qT → qD → Prop} {N : Int → Int}
theorem dS_r (s : Int) : 0 ≤ dS s ∧ dS s < 2147483648 := by unfold dS; omega
theorem dV_r {s b : Int} (hb : 0 < b) : 0 ≤ dV s b ∧ dV s b < b := ⟨Int.emod_nonneg _ (by omega), Int.emod_lt_of_pos _ hb⟩
theorem QW.sc {E : qD} {s : Int} (q : QW D E N s) : SC D E := ⟨q.2.1 14 (by decide) (by decide) (by decide) (by decide), q.1 _ (by decide) (by decide), q.1 _ (by decide) (by decide), q.1 _ (by decide) (by decide), q.1 _ (by decide) (by decide), q.1 _ (by decide) (by decide), q.1 _ (by decide) (by decide), q.1 _ (by decide) (by decide)⟩
theorem QW.u42 {E : qD} {s : Int} {M : Int → Int} (q : QW D E N s) : QW D (upr E 42 M) M s := by
  obtain ⟨q1, q2, q3, q4⟩ := q
  exact ⟨fun a h1 h2 => (upr_n h2).trans (q1 a h1 h2), fun i a b c d => q2 i a b c d, upr_s, q4⟩
theorem QW.q28 {E : qD} {s c p f : Int} (q : QW D E N s) : QW D (upr E 28 (s28 (E 28) c p f)) N s := by
  obtain ⟨q1, q2, q3, q4⟩ := q
  refine ⟨fun a h1 h2 => (upr_n h1).trans (q1 a h1 h2), fun i a b c d => ?_, q3, q4⟩
  rw [upr_s]; unfold s28; rw [if_neg a, if_neg b, if_neg c]; exact q2 i a b c d
theorem c170 {E : qD} {s b : Int} (q : QW D E N s) (hs : 0 ≤ s ∧ s < 2147483648) (hb : 0 < b ∧ b < 2147483648) (k : ∀ E', QW D E' N (dS s) → Q (dV (dS s) b) t E') : wp S 170 0 [some (qs 28), some (qi b)] [] t E Q := by
  have h := dS_r s
  obtain ⟨q1, q2, q3, q4⟩ := q
  refine b170_0 ?_
  rw [q4]
  refine chk_i (by omega) (chk_i h (chk_i ?_ (chk_i hb (k _ ?_))))
  · show 0 ≤ dS s / 65536 ∧ dS s / 65536 < 2147483648; omega
  · rw [up_eq]
    refine ⟨fun a h1 h2 => (upr_n h1).trans (q1 a h1 h2), fun i a b c d => ?_, q3, ?_⟩
    · rw [upr_s, ui_n d]; exact q2 i a b c d
    · rw [upr_s, ui_s]; rfl
theorem RVd.rg {nf r v : Int} (h : RVd nf N) (hr : 0 ≤ r ∧ r < 4) (hv : qR v) : RVd nf (ui N (9 + r) v) := by
  obtain ⟨h1, h3, h4, h5, h6⟩ := h
  refine ⟨?_, fun l x y => ?_, fun k x y => ?_, ?_, fun k x y => ?_⟩
  · rw [ui_n (by omega)]; exact h1
  · rw [ui_n (by omega)] at y
    rw [ui_n (by omega), ui_n (by omega)]; exact h3 l x y
  · rw [ui_n (by omega)]; exact h4 k x y
  · rw [ui_n (by omega)]; exact h5
  · have := h6 k x y
    rw [ui_ap]; split
    · exact hv
    · exact this
theorem sCat_cp (hV : RVd (D 28 14) N) (ty : Int) (h : ¬ (sCat (D 38) (D 40) N ty).1 = -1) : (0 ≤ (sCat (D 38) (D 40) N ty).1 ∧ (sCat (D 38) (D 40) N ty).1 < N 13) ∧ 0 ≤ (sCat (D 38) (D 40) N ty).2.1 ∧ (sCat (D 38) (D 40) N ty).2.1 < 3 ∧ (sCat (D 38) (D 40) N ty).2.1 < D 38 (N (sAt N (sCat (D 38) (D 40) N ty).1)) := by
  have hr := sCat_r (D 38) (D 40) N ty
  omega
theorem dOne_r (hC : CVd D) (hnf : 0 < D 28 14) (hV : RVd (D 28 14) N) {s : Int} : RVd (D 28 14) (dOne D N s).1 ∧ (0 ≤ (dOne D N s).2.1 ∧ (dOne D N s).2.1 < 2147483648) ∧ ((dOne D N s).2.2 = 0 ∨ (dOne D N s).2.2 = 1) := by
  have h1 := dS_r s
  have h2 := dS_r (dS s)
  have h3 := dS_r (dS (dS s))
  have h13 := hV.1
  unfold dOne
  split
  · refine ⟨?_, h2, .inl rfl⟩
    dsimp only
    split
    · rename_i c; exact RVd.call hC (dV_r hnf) c hV
    · exact hV
  · split
    · refine ⟨?_, h1, .inl rfl⟩
      dsimp only
      split
      · rename_i c; exact RVd.step hC (by omega) c.2 hV
      · exact hV
    · split
      · refine ⟨?_, h3, .inl rfl⟩
        have r1 := dV_r (s := dS (dS s)) (b := 4) (by omega)
        have r2 := dV_r (s := dS (dS (dS s))) (b := 1000) (by omega)
        exact hV.rg r1 (by omega)
      · unfold dThr
        split
        · exact ⟨hV, h2, .inl rfl⟩
        · rename_i c
          have := sCat_cp hV _ c
          exact ⟨(sRaise_r hC hV this.1 ⟨this.2.1, this.2.2.2⟩).1, h2, .inr rfl⟩
theorem c174 {E : qD} {s : Int} (hC : CVd D) (hV : RVd (D 28 14) N) (q : QW D E N s) (hs : 0 ≤ s ∧ s < 2147483648)
    (k : ∀ E', QW D E' (dThr D N (dS s) (dV (dS s) 5)).1 (dThr D N (dS s) (dV (dS s) 5)).2.1 → Q (dThr D N (dS s) (dV (dS s) 5)).2.2 t E') : wp S 174 0 [some (qs 28), none] [] t E Q := by
  have h1 := dS_r s
  have hty := dV_r (s := dS s) (b := 5) (by omega)
  have h13 := hV.1
  unfold dThr at k
  refine b174_0 (c170 q hs (by decide) fun E1 q1 => ?_)
  have hr := sCat_r (D 38) (D 40) N (dV (dS s) 5)
  refine c146 (by omega) (hC.sc q1.sc) (by rw [q1.sc.1, q1.2.2.1]; exact hV) ?_
  have e38 : E1 38 = D 38 := q1.1 _ (by decide) (by decide)
  have e40 : E1 40 = D 40 := q1.1 _ (by decide) (by decide)
  have e34 : E1 34 = D 34 := q1.1 _ (by decide) (by decide)
  rw [e38, e40, q1.2.2.1]
  simp only [upr_s]
  show chk (qR (sCat (D 38) (D 40) N (dV (dS s) 5)).1) (if (sCat (D 38) (D 40) N (dV (dS s) 5)).1 = -1 then _ else _)
  have q2 := q1.q28 (c := (sCat (D 38) (D 40) N (dV (dS s) 5)).1) (p := (sCat (D 38) (D 40) N (dV (dS s) 5)).2.1) (f := (sCat (D 38) (D 40) N (dV (dS s) 5)).2.2)
  refine chk_i (by omega) (ite_i (fun c => ?_) fun c => ?_)
  · rw [if_pos c] at k
    exact k _ q2
  · rw [if_neg c] at k
    have hcp := sCat_cp hV _ c
    refine c150 (c := (sCat (D 38) (D 40) N (dV (dS s) 5)).1) (cp := (sCat (D 38) (D 40) N (dV (dS s) 5)).2.1) (hC.sc q2.sc) (by omega) rfl rfl (by rw [q2.sc.1, q2.2.2.1]; exact hV) (by rw [q2.2.2.1]; exact hcp.1) (by rw [q2.2.2.1, q2.1 38 (by decide) (by decide)]; exact ⟨hcp.2.1, hcp.2.2.2⟩) ?_
    rw [q2.2.2.1, q2.1 38 (by decide) (by decide), q2.1 40 (by decide) (by decide), q2.1 34 (by decide) (by decide)]
    exact k _ q2.u42
theorem c175 {E : qD} {s : Int} (hC : CVd D) (hnf : 0 < D 28 14) (hV : RVd (D 28 14) N) (q : QW D E N s) (hs : 0 ≤ s ∧ s < 2147483648)
    (k : ∀ E', QW D E' (dOne D N s).1 (dOne D N s).2.1 → Q (dOne D N s).2.2 t E') : wp S 175 0 [some (qs 28)] [] t E Q := by
  have h1 := dS_r s
  have h2 := dS_r (dS s)
  have h3 := dS_r (dS (dS s))
  have h13 := hV.1
  have hnf3 := hC.1
  unfold dOne at k
  refine b175_0 (c170 q hs (by decide) fun E1 q1 => ?_)
  have hx := dV_r (s := dS s) (b := 4) (by omega)
  refine chk_i (by omega) (ite_i (fun c => ?_) fun c => ite_i (fun c1 => ?_) fun c1 => ite_i (fun c2 => ?_) fun c2 => ?_)
  · rw [if_pos c] at k
    refine b171_0 ?_
    rw [q1.sc.1]
    refine c170 q1 h1 (by omega) fun E2 q2 => c133 ?_
    rw [q2.2.2.1]
    refine chk_i (by omega) (ite_i (fun c3 => c136 (hC.sc q2.sc) (by rw [q2.sc.1]; exact dV_r hnf) (by rw [q2.2.2.1]; omega) ?_) fun c3 => ?_)
    · rw [q2.1 37 (by decide) (by decide), q2.1 39 (by decide) (by decide), q2.2.2.1]
      have := k _ (by dsimp only; rw [if_pos c3]; exact q2.u42 (M := sCall (D 37) (D 39) N (dV (dS (dS s)) (D 28 14))))
      exact this
    · exact k _ (by dsimp only; rw [if_neg c3]; exact q2)
  · rw [if_neg c, if_pos c1] at k
    refine b172_0 (c133 ?_)
    rw [q1.2.2.1]
    refine chk_i (by omega) (ite_i (fun c3 => c134 ?_) fun c3 => ?_)
    · have ha := sAt_r hV (Int.le_refl 0) (by omega)
      rw [q1.2.2.1]
      refine chk_i (by omega) (chk_i (by omega) (ite_i (fun c4 => c137 (hC.sc q1.sc) (by omega) (by rw [q1.sc.1, q1.2.2.1]; exact hV) (by rw [q1.2.2.1]; omega) (by rw [q1.2.2.1]; omega) ?_) fun c4 => ?_))
      · rw [q1.1 37 (by decide) (by decide), q1.1 39 (by decide) (by decide), q1.2.2.1]
        exact k _ (by dsimp only; rw [if_pos ⟨c3, c4⟩]; exact q1.u42 (M := sStep (D 37) (D 39) N))
      · exact k _ (by dsimp only; rw [if_neg (fun z => c4 z.2)]; exact q1)
    · exact k _ (by dsimp only; rw [if_neg (fun z => c3 z.1)]; exact q1)
  · rw [if_neg c, if_neg c1, if_pos c2] at k
    refine b173_0 (c170 q1 h1 (by decide) fun E2 q2 => c170 q2 h2 (by decide) fun E3 q3 => ?_)
    have r1 := dV_r (s := dS (dS s)) (b := 4) (by omega)
    refine chk_i (by omega) ?_
    rw [up_eq, q3.2.2.1]
    exact k _ q3.u42
  · rw [if_neg c, if_neg c1, if_neg c2] at k
    exact c174 hC hV q1 h1 k
/-! what lies outside the row stays -/
theorem sSv_o (hC : CVd D) {f a : Int} (hf : 0 ≤ f ∧ f < D 28 14) (ha : 14 ≤ a ∧ a + 7 < 110) {k : Nat} {n adr : Int} (hn : 0 ≤ n) {i : Int} (hi : ¬ (0 ≤ i ∧ i < 110)) : sSv (D 37) (D 39) f a k n adr N i = N i := sSv_n hC hf _ _ _ _ _ hn (by omega)
theorem sFin_o {nf ty bef : Int} {pd : Int → Int} (hnf : nf ≤ 3) (hb : bef ≤ 3) {i : Int} (hi : ¬ (0 ≤ i ∧ i < 110)) : ∀ (k : Nat) (p : Int) (N : Int → Int), 0 ≤ p → RVd nf N → 1 ≤ N 13 → N 78 + k ≤ 24 → sFin pd ty bef k p N i = N i := by
  intro k
  induction k with
  | zero => intro p N _ _ _ _; rfl
  | succ k ih =>
    intro p N hp h h13 h78
    have ha := sAt_r h (Int.le_refl 0) (by omega)
    have h4 := h.2.2.2.1
    unfold sFin
    split
    · split
      · rw [ih (p + 1) _ (by omega) (h.fin (by omega) (by omega)) (by rw [ui_n (by omega), ui_n (by omega)]; exact h13) (by rw [ui_s]; omega), ui_n (by omega), ui_n (by omega)]
      · exact ih (p + 1) N (by omega) h h13 (by omega)
    · rfl
theorem sBack_o {sv : Int → Int} {i : Int} (hi : ¬ (0 ≤ i ∧ i < 110)) : sBack sv N i = N i := by unfold sBack; rw [ui_n (by omega), cpf_n (by omega)]
theorem sUnw_o {ty : Int} (hC : CVd D) {i : Int} (hi : ¬ (0 ≤ i ∧ i < 110)) : ∀ (k : Nat) (N : Int → Int), RVd (D 28 14) N → k < N 13 → N 78 + 3 * k ≤ 24 → sUnw (D 34) (D 38) (D 40) ty k N i = N i := by
  intro k
  induction k with
  | zero => intro N _ _ _; rfl
  | succ k ih =>
    intro N hV h13 h78
    have hu := sUn1_r (ty := ty) hC hV (by omega) (by omega)
    have ha := sAt_r hV (Int.le_refl 0) (by omega)
    have h1 := hC.1
    have h2 := hC.2.1 _ ha.2.1.1 ha.2.1.2
    show sUnw (D 34) (D 38) (D 40) ty k _ i = _
    rw [ih _ hu.2.1 (by rw [hu.2.2.1]; omega) (by have := hu.2.2.2.2.1; omega), sBack_o hi, sFin_o h1.2 h2.2.2.2 hi 3 0 N (Int.le_refl _) hV (by omega) (by omega)]
theorem sRaise_o {ty c cp : Int} (hC : CVd D) (hV : RVd (D 28 14) N) (hc : 0 ≤ c ∧ c < N 13) (hcp : 0 ≤ cp ∧ cp < 3) {i : Int} (hi : ¬ (0 ≤ i ∧ i < 110)) : sRaise (D 34) (D 38) (D 40) N ty c cp i = N i := by
  have h13 := hV.1
  have hu := sUnw_r (ty := ty) hC c.toNat (ui N 78 0) hV.u78 (by rw [ui_n (by omega)]; omega) (by rw [ui_s]; omega)
  rw [ui_n (by omega), ui_s] at hu
  have ha := sAt_r hu.1 (Int.le_refl 0) (by omega)
  have e := sUnw_o (ty := ty) hC hi c.toNat (ui N 78 0) hV.u78 (by rw [ui_n (by omega)]; omega) (by rw [ui_s]; omega)
  show ui (sFin _ _ _ _ _ _) _ _ i = _
  rw [ui_n (by omega), sFin_o hC.1.2 (by omega) hi 3 0 _ (Int.le_refl _) hu.1 (by omega) (by omega), e, ui_n (by omega)]
theorem dOne_o (hC : CVd D) (hnf : 0 < D 28 14) (hV : RVd (D 28 14) N) (h : OUT D N) {s : Int} : OUT D (dOne D N s).1 := by
  intro i hi
  have h13 := hV.1
  rw [← h i hi]
  unfold dOne
  split
  · dsimp only
    split
    · rename_i c
      unfold sCall
      rw [sSv_o hC (dV_r hnf) (by omega) (Int.le_refl 0) hi, ui_n (by omega)]
      unfold sClr
      rw [cpf_n (by omega), ui_n (by omega)]
    · rfl
  · split
    · dsimp only
      split
      · rename_i c
        have ha := sAt_r hV (Int.le_refl 0) (by omega)
        unfold sStep
        rw [sSv_o hC ha.2.1 (by omega) (Int.le_refl 0) hi, ui_n (by omega)]
      · rfl
    · split
      · have r1 := dV_r (s := dS (dS s)) (b := 4) (by omega)
        dsimp only
        rw [ui_n (by omega)]
      · unfold dThr
        split
        · rfl
        · rename_i c
          have := sCat_cp hV _ c
          exact sRaise_o hC hV this.1 ⟨this.2.1, this.2.2.1⟩ hi
theorem c176_63 {n s0 w : Int} {X : Int → Int} (hC : CVd D) (hnf : 0 < D 28 14) (hn : 1 ≤ n ∧ n ≤ 99) (hw : 0 ≤ w ∧ w ≤ 2) (h45 : D 45 = cpf X (D 42) 0 110) : ∀ (m : Nat) (i o s : Int) (N : Int → Int) (E : qD), i + m = n → 0 ≤ i → RVd (D 28 14) N → OUT D N → QW D E N s → (0 ≤ s ∧ s < 2147483648) →
    (∀ E', SQ D E' → Q (if w = 0 then (dMany D m N s o).2.2 else if w = 1 then (dMany D m N s o).1 13 else (dMany D m N s o).2.1) t E') →
    wp S 176 63 [some (qs 28), some (qi n), some (qi s0), some (qi w), some (qi o), some (qi i)] [] t E Q := by
  intro m
  induction m with
  | zero =>
    intro i o s N E hm hi hV hO q hs k
    have e : dMany D 0 N s o = (N, (s, o)) := rfl
    rw [e] at k
    refine b176_63 (chk_i (by omega) (chk_i (by omega) (ite_i (fun c => absurd c (by omega)) fun c => c133 (c124 110 ⟨rfl, rfl⟩ ⟨rfl, rfl⟩ (by decide) (by decide) ?_))))
    have hq : SQ D (upr E 42 (cpf (E 42) (E 45) 0 110)) := by
      refine ⟨fun a h1 h2 h3 h4 h5 h6 h7 => ?_, ?_, ?_, ?_, ?_, ?_, ?_, ?_, ?_⟩
      · by_cases c42 : a = 42
        · subst c42
          rw [upr_s, q.1 45 (by decide) (by decide), h45, q.2.2.1]
          funext j
          by_cases c : 0 ≤ j ∧ j < 110
          · rw [cpf_y c, cpf_y c]
          · rw [cpf_n c]; exact hO j c
        · rw [upr_n c42]; exact q.1 a h1 c42
      all_goals exact q.2.1 _ (by decide) (by decide) (by decide) (by decide)
    refine chk_i (by omega) (ite_i (fun c => ?_) fun c => chk_i (by omega) (ite_i (fun c1 => ?_) fun c1 => ?_))
    · rw [if_pos c] at k; exact k _ hq
    · rw [if_neg c, if_pos c1] at k
      have e13 : E 42 13 = N 13 := by rw [q.2.2.1]
      rw [e13]
      exact k _ hq
    · rw [if_neg c, if_neg c1] at k
      rw [upr_n (by decide), q.2.2.2]; exact k _ hq
  | succ m ih =>
    intro i o s N E hm hi hV hO q hs k
    have hr := dOne_r hC hnf hV (s := s)
    refine b176_63 (chk_i (by omega) (chk_i (by omega) (ite_i (fun c => ?_) fun c => absurd c (by omega))))
    exact c175 hC hnf hV q hs fun E' q' => ih (i + 1) _ _ _ E' (by omega) (by omega) hr.1 (dOne_o hC hnf hV hO) q' hr.2.1 k
theorem dMany_45 {X : Int → Int} : ∀ (m : Nat) (N : Int → Int) (s o : Int), dMany (upr D 45 X) m N s o = dMany D m N s o := by
  intro m
  induction m with
  | zero => intro N s o; rfl
  | succ m ih => intro N s o; exact ih _ _ _
theorem c176 {n s w : Int} (hn : qR n) (hs : qR s) (hw : qR w) (h : RVs D) (k : ∀ E, SQ D E → Q (vDrawn D n s w) t E) : wp S 176 0 [some (qs 28), some (qi n), some (qi s), some (qi w), none, none] [] t D Q := by
  have h1 := h.1.1
  unfold vDrawn at k
  refine b176_0 (chk_i hn (c110 hn (by omega) (by omega) (chk_i tfR (tf (fun c => chk_i hs (ite_i (fun c1 => ?_) fun c1 => chk_i hw (c110 hw (by omega) (by omega) (chk_i tfR (tf (fun c2 => c128 h.1.1 (chk_i tfR (tf (fun c3 => ?_) fun c3 => c124 110 ⟨rfl, rfl⟩ ⟨rfl, rfl⟩ (by decide) (by decide) ?_))) fun c2 => ?_))))) fun c => ?_))))
  · rw [if_neg (fun z => z c), if_pos c1] at k; exact k _ SQ.rfl'
  · rw [if_neg (fun z => z c), if_neg c1, if_neg (fun z => z c2), if_pos c3] at k; exact k _ SQ.rfl'
  · rw [if_neg (fun z => z c), if_neg c1, if_neg (fun z => z c2), if_neg c3] at k
    rw [up_eq]
    refine c176_63 (D := upr D 45 (cpf (D 45) (D 42) 0 110)) (X := D 45) h.1 (by show 0 < D 28 14; omega) c c2 rfl n.toNat 0 0 s (D 42) _ (by omega) (Int.le_refl _) h.2.1 (fun _ _ => rfl) ⟨fun a h1 _ => upr_n h1, fun i _ _ _ a => ?_, rfl, ?_⟩ (by omega) fun E q => ?_
    · rw [upr_s, ui_n a]
    · rw [upr_s, ui_s]
    · rw [dMany_45]
      refine k E ⟨fun a g1 g2 g3 g4 g5 g6 g7 => (q.1 a g1 g2 g3 g4 g5 g6 g7).trans (upr_n g7), q.2⟩
  · rw [if_neg (fun z => z c), if_neg c1, if_pos c2] at k; exact k _ SQ.rfl'
  · rw [if_pos c] at k; exact k _ SQ.rfl'
end RI
