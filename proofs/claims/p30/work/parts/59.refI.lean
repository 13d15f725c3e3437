/-! ## the reference: drawn -/
def dS (s : Int) : Int := (1103515245 * s + 12345) % 2147483648
def dV (s b : Int) : Int := s / 65536 % b
def dThr (D : qD) (N : Int → Int) (s ty : Int) : (Int → Int) × (Int × Int) :=
  if (sCat (D 38) (D 40) N ty).1 = -1 then (N, (s, 0)) else (sRaise (D 34) (D 38) (D 40) N ty (sCat (D 38) (D 40) N ty).1 (sCat (D 38) (D 40) N ty).2.1, (s, 1))
def dOne (D : qD) (N : Int → Int) (s : Int) : (Int → Int) × (Int × Int) :=
  if dV (dS s) 4 = 0 then (if N 13 < 8 then sCall (D 37) (D 39) N (dV (dS (dS s)) (D 28 14)) else N, (dS (dS s), 0))
  else if dV (dS s) 4 = 1 then (if 0 < N 13 ∧ N (sAt N 0 + 1) < 9 then sStep (D 37) (D 39) N else N, (dS s, 0))
  else if dV (dS s) 4 = 2 then (ui N (9 + dV (dS (dS s)) 4) (dV (dS (dS (dS s))) 1000), (dS (dS (dS s)), 0))
  else dThr D N (dS (dS s)) (dV (dS (dS s)) 5)
def dMany (D : qD) : Nat → (Int → Int) → Int → Int → (Int → Int) × (Int × Int)
  | 0, N, s, o => (N, (s, o))
  | k + 1, N, s, o => dMany D k (dOne D N s).1 (dOne D N s).2.1 (o + (dOne D N s).2.2)
def vDrawn (D : qD) (n s w : Int) : Int := if ¬ (1 ≤ n ∧ n ≤ 99) then -102 else if s < 0 then -102 else if ¬ (0 ≤ w ∧ w ≤ 2) then -102 else if D 28 14 = 0 then -103 else
  if w = 0 then (dMany D n.toNat (D 42) s 0).2.2 else if w = 1 then (dMany D n.toNat (D 42) s 0).1 13 else (dMany D n.toNat (D 42) s 0).2.1
def OUT (D : qD) (N : Int → Int) : Prop := ∀ i, ¬ (0 ≤ i ∧ i < 110) → N i = D 42 i
def QW (D E : qD) (N : Int → Int) (s : Int) : Prop := (∀ a, a ≠ 28 → a ≠ 42 → E a = D a) ∧ (∀ i, i ≠ 28 → i ≠ 29 → i ≠ 30 → i ≠ 33 → E 28 i = D 28 i) ∧ E 42 = N ∧ E 28 33 = s
section RI
variable {S : (Nat → Int32) × Nat} {t : qT} {D : qD} {Q : Int → qT → qD → Prop} {N : Int → Int}
theorem dS_r (s : Int) : 0 ≤ dS s ∧ dS s < 2147483648 := by unfold dS; omega
theorem dV_r {s b : Int} (hb : 0 < b) : 0 ≤ dV s b ∧ dV s b < b := ⟨Int.emod_nonneg _ (by omega), Int.emod_lt_of_pos _ hb⟩
theorem QW.sc {E : qD} {s : Int} (q : QW D E N s) : SC D E := ⟨q.2.1 14 (by decide) (by decide) (by decide) (by decide), q.1 _ (by decide) (by decide), q.1 _ (by decide) (by decide), q.1 _ (by decide) (by decide), q.1 _ (by decide) (by decide), q.1 _ (by decide) (by decide), q.1 _ (by decide) (by decide), q.1 _ (by decide) (by decide)⟩
theorem QW.u42 {E : qD} {s : Int} {M : Int → Int} (q : QW D E N s) : QW D (upr E 42 M) M s := by
  obtain ⟨q1, q2, q3, q4⟩ := q
  exact ⟨fun a h1 h2 => (upr_n h2).trans (q1 a h1 h2), fun i a b c d => q2 i a b c d, upr_s, q4⟩
theorem QW.q28 {E : qD} {s c p f : Int} (q : QW D E N s) : QW D (upr E 28 (s28 (E 28) c p f)) N s := by
  obtain ⟨q1, q2, q3, q4⟩ := q
  refine ⟨fun a h1 h2 => (upr_n h1).trans (q1 a h1 h2), fun i a b c d => ?_, q3, q4⟩
  rw [upr_s]; unfold s28; rw [if_neg a, if_neg b, if_neg c]; exact q2 i a b c d
theorem RVd.rg {nf r v : Int} (h : RVd nf N) (hr : 0 ≤ r ∧ r < 4) (hv : qR v) : RVd nf (ui N (9 + r) v) := by
  obtain ⟨h1, h3, h4, h5, h6⟩ := h
  refine ⟨?_, fun l x y => ?_, fun k x y => ?_, ?_, fun k x y => ?_⟩
  · rw [ui_n (by omega)]; exact h1
  · rw [ui_n (by omega)] at y
    rw [ui_n (by omega), ui_n (by omega)]; exact h3 l x y
  · rw [ui_n (by omega)]; exact h4 k x y
  · rw [ui_n (by omega)]; exact h5
  · have := h6 k x y
    rw [ui_ap]; split
    · exact hv
    · exact this
theorem sCat_cp (hV : RVd (D 28 14) N) (ty : Int) (h : ¬ (sCat (D 38) (D 40) N ty).1 = -1) : (0 ≤ (sCat (D 38) (D 40) N ty).1 ∧ (sCat (D 38) (D 40) N ty).1 < N 13) ∧ 0 ≤ (sCat (D 38) (D 40) N ty).2.1 ∧ (sCat (D 38) (D 40) N ty).2.1 < 3 ∧ (sCat (D 38) (D 40) N ty).2.1 < D 38 (N (sAt N (sCat (D 38) (D 40) N ty).1)) := by
  have hr := sCat_r (D 38) (D 40) N ty
  omega
theorem dOne_r (hC : CVd D) (hnf : 0 < D 28 14) (hV : RVd (D 28 14) N) {s : Int} : RVd (D 28 14) (dOne D N s).1 ∧ (0 ≤ (dOne D N s).2.1 ∧ (dOne D N s).2.1 < 2147483648) ∧ ((dOne D N s).2.2 = 0 ∨ (dOne D N s).2.2 = 1) := by
  have h1 := dS_r s
  have h2 := dS_r (dS s)
  have h3 := dS_r (dS (dS s))
  have h13 := hV.1
  unfold dOne
  split
  · refine ⟨?_, h2, .inl rfl⟩
    dsimp only
    split
    · rename_i c; exact RVd.call hC (dV_r hnf) c hV
    · exact hV
  · split
    · refine ⟨?_, h1, .inl rfl⟩
      dsimp only
      split
      · rename_i c; exact RVd.step hC (by omega) c.2 hV
      · exact hV
    · split
      · refine ⟨?_, h3, .inl rfl⟩
        have r1 := dV_r (s := dS (dS s)) (b := 4) (by omega)
        have r2 := dV_r (s := dS (dS (dS s))) (b := 1000) (by omega)
        exact hV.rg r1 (by omega)
      · unfold dThr
        split
        · exact ⟨hV, h2, .inl rfl⟩
        · rename_i c
          have := sCat_cp hV _ c
          exact ⟨(sRaise_r hC hV this.1 ⟨this.2.1, this.2.2.2⟩).1, h2, .inr rfl⟩
/-! what lies outside the row stays -/
theorem sSv_o (hC : CVd D) {f a : Int} (hf : 0 ≤ f ∧ f < D 28 14) (ha : 14 ≤ a ∧ a + 7 < 110) {k : Nat} {n adr : Int} (hn : 0 ≤ n) {i : Int} (hi : ¬ (0 ≤ i ∧ i < 110)) : sSv (D 37) (D 39) f a k n adr N i = N i := sSv_n hC hf _ _ _ _ _ hn (by omega)
theorem sFin_o {nf ty bef : Int} {pd : Int → Int} (hnf : nf ≤ 3) (hb : bef ≤ 3) {i : Int} (hi : ¬ (0 ≤ i ∧ i < 110)) : ∀ (k : Nat) (p : Int) (N : Int → Int), 0 ≤ p → RVd nf N → 1 ≤ N 13 → N 78 + k ≤ 24 → sFin pd ty bef k p N i = N i := by
  intro k
  induction k with
  | zero => intro p N _ _ _ _; rfl
  | succ k ih =>
    intro p N hp h h13 h78
    have ha := sAt_r h (Int.le_refl 0) (by omega)
    have h4 := h.2.2.2.1
    unfold sFin
    split
    · split
      · rw [ih (p + 1) _ (by omega) (h.fin (by omega) (by omega)) (by rw [ui_n (by omega), ui_n (by omega)]; exact h13) (by rw [ui_s]; omega), ui_n (by omega), ui_n (by omega)]
      · exact ih (p + 1) N (by omega) h h13 (by omega)
    · rfl
theorem sBack_o {sv : Int → Int} {i : Int} (hi : ¬ (0 ≤ i ∧ i < 110)) : sBack sv N i = N i := by unfold sBack; rw [ui_n (by omega), cpf_n (by omega)]
theorem sUnw_o {ty : Int} (hC : CVd D) {i : Int} (hi : ¬ (0 ≤ i ∧ i < 110)) : ∀ (k : Nat) (N : Int → Int), RVd (D 28 14) N → k < N 13 → N 78 + 3 * k ≤ 24 → sUnw (D 34) (D 38) (D 40) ty k N i = N i := by
  intro k
  induction k with
  | zero => intro N _ _ _; rfl
  | succ k ih =>
    intro N hV h13 h78
    have hu := sUn1_r (ty := ty) hC hV (by omega) (by omega)
    have ha := sAt_r hV (Int.le_refl 0) (by omega)
    have h1 := hC.1
    have h2 := hC.2.1 _ ha.2.1.1 ha.2.1.2
    show sUnw (D 34) (D 38) (D 40) ty k _ i = _
    rw [ih _ hu.2.1 (by rw [hu.2.2.1]; omega) (by have := hu.2.2.2.2.1; omega), sBack_o hi, sFin_o h1.2 h2.2.2.2 hi 3 0 N (Int.le_refl _) hV (by omega) (by omega)]
theorem sRaise_o {ty c cp : Int} (hC : CVd D) (hV : RVd (D 28 14) N) (hc : 0 ≤ c ∧ c < N 13) (hcp : 0 ≤ cp ∧ cp < 3) {i : Int} (hi : ¬ (0 ≤ i ∧ i < 110)) : sRaise (D 34) (D 38) (D 40) N ty c cp i = N i := by
  have h13 := hV.1
  have hu := sUnw_r (ty := ty) hC c.toNat (ui N 78 0) hV.u78 (by rw [ui_n (by omega)]; omega) (by rw [ui_s]; omega)
  rw [ui_n (by omega), ui_s] at hu
  have ha := sAt_r hu.1 (Int.le_refl 0) (by omega)
  have e := sUnw_o (ty := ty) hC hi c.toNat (ui N 78 0) hV.u78 (by rw [ui_n (by omega)]; omega) (by rw [ui_s]; omega)
  show ui (sFin _ _ _ _ _ _) _ _ i = _
  rw [ui_n (by omega), sFin_o hC.1.2 (by omega) hi 3 0 _ (Int.le_refl _) hu.1 (by omega) (by omega), e, ui_n (by omega)]
theorem dOne_o (hC : CVd D) (hnf : 0 < D 28 14) (hV : RVd (D 28 14) N) (h : OUT D N) {s : Int} : OUT D (dOne D N s).1 := by
  intro i hi
  have h13 := hV.1
  rw [← h i hi]
  unfold dOne
  split
  · dsimp only
    split
    · rename_i c
      unfold sCall
      rw [sSv_o hC (dV_r hnf) (by omega) (Int.le_refl 0) hi, ui_n (by omega)]
      unfold sClr
      rw [cpf_n (by omega), ui_n (by omega)]
    · rfl
  · split
    · dsimp only
      split
      · rename_i c
        have ha := sAt_r hV (Int.le_refl 0) (by omega)
        unfold sStep
        rw [sSv_o hC ha.2.1 (by omega) (Int.le_refl 0) hi, ui_n (by omega)]
      · rfl
    · split
      · have r1 := dV_r (s := dS (dS s)) (b := 4) (by omega)
        dsimp only
        rw [ui_n (by omega)]
      · unfold dThr
        split
        · rfl
        · rename_i c
          have := sCat_cp hV _ c
          exact sRaise_o hC hV this.1 ⟨this.2.1, this.2.2.1⟩ hi
theorem dMany_45 {X : Int → Int} : ∀ (m : Nat) (N : Int → Int) (s o : Int), dMany (upr D 45 X) m N s o = dMany D m N s o := by
  intro m
  induction m with
  | zero => intro N s o; rfl
  | succ m ih => intro N s o; exact ih _ _ _
end RI
