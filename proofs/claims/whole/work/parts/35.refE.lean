/-! ## the reference's methods: thrown; kept and taken back -/
section RE
variable {S : (Nat → Int32) × Nat} {t : qT} {D : qD} {Q : Int → qT → qD → Prop}
theorem sAt_d {N M : Int → Int} {a b : Int} (h : M 13 - a = N 13 - b) : sAt M a = sAt N b := by unfold sAt; omega
/-- what one frame's going does -/
theorem sUn1_r {ty : Int} {N : Int → Int} (hC : CVd D) (h : RVd (D 28 14) N) (h13 : 2 ≤ N 13) (h78 : N 78 ≤ 21) :
    RVd (D 28 14) (sFin (D 40) ty (D 38 (N (sAt N 0))) 3 0 N) ∧ RVd (D 28 14) (sBack (D 34) (sFin (D 40) ty (D 38 (N (sAt N 0))) 3 0 N)) ∧
    sBack (D 34) (sFin (D 40) ty (D 38 (N (sAt N 0))) 3 0 N) 13 = N 13 - 1 ∧
    (∀ i, 14 ≤ i → i < 78 → sBack (D 34) (sFin (D 40) ty (D 38 (N (sAt N 0))) 3 0 N) i = N i) ∧
    sBack (D 34) (sFin (D 40) ty (D 38 (N (sAt N 0))) 3 0 N) 78 ≤ N 78 + 3 ∧ N 78 ≤ sBack (D 34) (sFin (D 40) ty (D 38 (N (sAt N 0))) 3 0 N) 78 ∧
    sFin (D 40) ty (D 38 (N (sAt N 0))) 3 0 N 13 = N 13 := by
  have ha := sAt_r h (Int.le_refl 0) (by omega)
  have h1 := hC.1
  have h2 := hC.2.1 _ ha.2.1.1 ha.2.1.2
  have hf := sFin_r (ty := ty) (bef := D 38 (N (sAt N 0))) (pd := D 40) h1.2 h2.2.2.2 3 0 N (Int.le_refl _) h (by omega) (by omega)
  have e13 := hf.2.1 13 (by omega)
  refine ⟨hf.1, RVd.back hC (by omega) hf.1, ?_, fun i h3 h4 => ?_, ?_, ?_, e13⟩
  · unfold sBack; rw [ui_s, e13]
  · unfold sBack; rw [ui_n (by omega), cpf_n (by omega)]; exact hf.2.1 i h4
  · unfold sBack; rw [ui_n (by omega), cpf_n (by omega)]; exact hf.2.2.2
  · unfold sBack; rw [ui_n (by omega), cpf_n (by omega)]; exact hf.2.2.1
theorem sEnd_r {ty cp : Int} {N : Int → Int} (hC : CVd D) (h : RVd (D 28 14) N) (h13 : 1 ≤ N 13) (h78 : N 78 ≤ 21) (hcp : 0 ≤ cp ∧ cp < D 38 (N (sAt N 0))) :
    RVd (D 28 14) (sEnd (D 40) ty cp N) ∧ sEnd (D 40) ty cp N 13 = N 13 := by
  have ha := sAt_r h (Int.le_refl 0) (by omega)
  have h1 := hC.1
  have h2 := hC.2.1 _ ha.2.1.1 ha.2.1.2
  have hf := sFin_r (ty := ty) (bef := cp) (pd := D 40) h1.2 (by omega) 3 0 N (Int.le_refl _) h (by omega) (by omega)
  have e13 := hf.2.1 13 (by omega)
  have es : sAt (sFin (D 40) ty cp 3 0 N) 0 = sAt N 0 := by unfold sAt; rw [e13]
  have hp := hC.2.2.2.2.2 _ cp ha.2.1.1 ha.2.1.2 hcp.1 hcp.2
  unfold sEnd
  refine ⟨?_, ?_⟩
  · rw [← es]
    refine RVd.ui1 (by omega) ?_ hf.1
    rw [es]; omega
  · rw [ui_n (by omega)]; exact e13
theorem c150_15 {ty c cp : Int} (hC : CVd D) (ht : 0 ≤ ty ∧ ty ≤ 4) (hc : 0 ≤ c ∧ c ≤ 7) (h28 : D 28 28 = c) (h29 : D 28 29 = cp) (hcp : 0 ≤ cp) : ∀ (k : Nat) (n : Int) (N : Int → Int), n + k = c → 0 ≤ n → RVd (D 28 14) N → k < N 13 → N 78 ≤ 3 * n → cp < D 38 (N (sAt N k)) →
    Q 0 t (upr D 42 (sEnd (D 40) ty cp (sUnw (D 34) (D 38) (D 40) ty k N))) → wp S 150 15 [some (qs 28), some (qi ty), some (qi c), some (qi n)] [] t (upr D 42 N) Q := by
  intro k
  induction k with
  | zero =>
    intro n N hk hn hV h13 h78 hcp2 hQ
    have ha := sAt_r hV (Int.le_refl 0) (by omega)
    have h1 := hC.1
    have h2 := hC.2.1 _ ha.2.1.1 ha.2.1.2
    have hcp2 : cp < D 38 (N (sAt N 0)) := hcp2
    have hf := sFin_r (ty := ty) (bef := cp) (pd := D 40) h1.2 (by omega) 3 0 N (Int.le_refl _) hV (by omega) (by omega)
    have e13 := hf.2.1 13 (by omega)
    have es : sAt (sFin (D 40) ty cp 3 0 N) 0 = sAt N 0 := by unfold sAt; rw [e13]
    have hp := hC.2.2.2.2.2 _ cp ha.2.1.1 ha.2.1.2 hcp hcp2
    refine b150_15 (chk_i (by omega) (chk_i (by omega) (ite_i (fun h => absurd h (by omega)) fun h => ?_)))
    simp only [upr_b, Nat.reduceBEq, h29]
    refine c149 hC ht hcp hV (by show 1 ≤ N 13; omega) (by show N 78 ≤ 21; omega) (by show cp ≤ D 38 (N (sAt N 0)); omega) ?_
    simp only [upr_b, Nat.reduceBEq, upr_u, upr_s]
    refine c134 ?_
    simp only [upr_b, Nat.reduceBEq, upr_u, upr_s, up_eq, es, h29]
    rw [hf.2.1 (sAt N 0) (by omega)]
    exact chk_i (by omega) (chk_i (by omega) (chk_i (by omega) hQ))
  | succ k ih =>
    intro n N hk hn hV h13 h78 hcp2 hQ
    have ha := sAt_r hV (Int.le_refl 0) (by omega)
    have h1 := hC.1
    have h2 := hC.2.1 _ ha.2.1.1 ha.2.1.2
    have hu := sUn1_r (ty := ty) hC hV (by omega) (by omega)
    refine b150_15 (chk_i (by omega) (chk_i (by omega) (ite_i (fun h => c134 ?_) fun h => absurd h (by omega))))
    simp only [upr_b, Nat.reduceBEq, upr_s]
    refine chk_i (by omega) (chk_i (by omega) (c149 hC ht h2.2.2.1 hV (by show 1 ≤ N 13; omega) (by show N 78 ≤ 21; omega) (Int.le_refl _) ?_))
    simp only [upr_b, Nat.reduceBEq, upr_u, upr_s]
    refine c138 hC hu.1 (by show 1 ≤ sFin (D 40) ty (D 38 (N (sAt N 0))) 3 0 N 13; rw [hu.2.2.2.2.2.2]; omega) ?_
    simp only [upr_b, Nat.reduceBEq, upr_u, upr_s]
    refine ih (n + 1) _ (by omega) (by omega) hu.2.1 ?_ ?_ ?_ hQ
    · rw [hu.2.2.1]; omega
    · have := hu.2.2.2.2.1; omega
    · have e : sAt (sBack (D 34) (sFin (D 40) ty (D 38 (N (sAt N 0))) 3 0 N)) k = sAt N ((k + 1 : Nat) : Int) := by
        refine sAt_d ?_; rw [hu.2.2.1]; omega
      have hb : 14 ≤ sAt N ((k + 1 : Nat) : Int) ∧ sAt N ((k + 1 : Nat) : Int) < 78 := by
        have := hV.1
        unfold sAt; omega
      rw [e, hu.2.2.2.1 _ hb.1 hb.2]
      exact hcp2
theorem c150 {ty c cp : Int} (hC : CVd D) (ht : 0 ≤ ty ∧ ty ≤ 4) (h28 : D 28 28 = c) (h29 : D 28 29 = cp) (hV : RVd (D 28 14) (D 42)) (hc : 0 ≤ c ∧ c < D 42 13) (hcp : 0 ≤ cp ∧ cp < D 38 (D 42 (sAt (D 42) c)))
    (k : Q 0 t (upr D 42 (sRaise (D 34) (D 38) (D 40) (D 42) ty c cp))) : wp S 150 0 [some (qs 28), some (qi ty), none, none] [] t D Q := by
  refine b150_0 ?_
  rw [up_eq, h28]
  have h13 := hV.1
  have e : sAt (ui (D 42) 78 0) c = sAt (D 42) c := sAt_ui (by decide)
  have hb : 14 ≤ sAt (D 42) c ∧ sAt (D 42) c < 78 := by unfold sAt; omega
  refine c150_15 (c := c) (cp := cp) hC ht (by omega) h28 h29 hcp.1 c.toNat 0 _ (by omega) (Int.le_refl _) ?_ ?_ ?_ ?_ k
  · obtain ⟨h1, h3, h4, h5, h6⟩ := hV
    refine ⟨?_, fun l x y => ?_, fun k x y => ?_, ?_, fun k x y => ?_⟩
    · rw [ui_n (by omega)]; exact h1
    · rw [ui_n (by omega)] at y
      rw [ui_n (by omega), ui_n (by omega)]; exact h3 l x y
    · rw [ui_n (by omega)]; exact h4 k x y
    · rw [ui_s]; omega
    · have := h6 k x y
      rw [ui_ap]; split <;> omega
  · rw [ui_n (by omega)]; omega
  · rw [ui_s]; omega
  · rw [show ((c.toNat : Nat) : Int) = c by omega, e, ui_n (by omega)]; exact hcp.2
theorem RVd.u78 {nf : Int} {N : Int → Int} (hV : RVd nf N) : RVd nf (ui N 78 0) := by
  obtain ⟨h1, h3, h4, h5, h6⟩ := hV
  refine ⟨?_, fun l x y => ?_, fun k x y => ?_, ?_, fun k x y => ?_⟩
  · rw [ui_n (by omega)]; exact h1
  · rw [ui_n (by omega)] at y
    rw [ui_n (by omega), ui_n (by omega)]; exact h3 l x y
  · rw [ui_n (by omega)]; exact h4 k x y
  · rw [ui_s]; omega
  · have := h6 k x y
    rw [ui_ap]; split <;> omega
theorem sUnw_r {ty : Int} (hC : CVd D) : ∀ (k : Nat) (N : Int → Int), RVd (D 28 14) N → k < N 13 → N 78 + 3 * k ≤ 24 →
    RVd (D 28 14) (sUnw (D 34) (D 38) (D 40) ty k N) ∧ sUnw (D 34) (D 38) (D 40) ty k N 13 = N 13 - k ∧ (∀ i, 14 ≤ i → i < 78 → sUnw (D 34) (D 38) (D 40) ty k N i = N i) ∧ sUnw (D 34) (D 38) (D 40) ty k N 78 ≤ N 78 + 3 * k := by
  intro k
  induction k with
  | zero => intro N h _ _; exact ⟨h, by show N 13 = N 13 - ((0 : Nat) : Int); omega, fun _ _ _ => rfl, by show N 78 ≤ _; omega⟩
  | succ k ih =>
    intro N hV h13 h78
    have hu := sUn1_r (ty := ty) hC hV (by omega) (by omega)
    have := ih _ hu.2.1 (by rw [hu.2.2.1]; omega) (by have := hu.2.2.2.2.1; omega)
    have h5 := hu.2.2.2.2.1
    have h3 := hu.2.2.1
    refine ⟨this.1, ?_, fun i h1 h2 => (this.2.2.1 i h1 h2).trans (hu.2.2.2.1 i h1 h2), ?_⟩
    · show sUnw (D 34) (D 38) (D 40) ty k _ 13 = _
      rw [this.2.1]; omega
    · have := this.2.2.2
      show sUnw (D 34) (D 38) (D 40) ty k _ 78 ≤ _
      omega
theorem sRaise_r {ty c cp : Int} {N : Int → Int} (hC : CVd D) (hV : RVd (D 28 14) N) (hc : 0 ≤ c ∧ c < N 13) (hcp : 0 ≤ cp ∧ cp < D 38 (N (sAt N c))) :
    RVd (D 28 14) (sRaise (D 34) (D 38) (D 40) N ty c cp) ∧ sRaise (D 34) (D 38) (D 40) N ty c cp 13 = N 13 - c := by
  have h13 := hV.1
  have hb : 14 ≤ sAt N c ∧ sAt N c < 78 := by unfold sAt; omega
  have hu := sUnw_r (ty := ty) hC c.toNat (ui N 78 0) hV.u78 (by rw [ui_n (by omega)]; omega) (by rw [ui_s]; omega)
  rw [ui_n (by omega), ui_s] at hu
  have es : sAt (sUnw (D 34) (D 38) (D 40) ty c.toNat (ui N 78 0)) 0 = sAt N c := by unfold sAt; rw [hu.2.1]; omega
  have := sEnd_r (ty := ty) (cp := cp) hC hu.1 (by omega) (by omega) (by rw [es, hu.2.2.1 _ hb.1 hb.2, ui_n (by omega)]; exact hcp)
  refine ⟨this.1, ?_⟩
  show sEnd _ _ _ _ 13 = _
  rw [this.2, hu.2.1]; omega
/-! ### kept -/
def sPush (U N : Int → Int) (m : Int) : Int → Int := if m = 30 then cpf (cpf U (fun i => U (i + 110)) 0 3190) (fun i => N (i - 3190)) 3190 3300 else cpf U (fun i => N (i - 110 * m)) (110 * m) (110 * m + 110)
def sPushN (m : Int) : Int := if m = 30 then 30 else m + 1
def sKeep (D : qD) : qD := upr (upr D 43 (sPush (D 43) (D 42) (D 28 27))) 28 (ui (D 28) 27 (sPushN (D 28 27)))
theorem c131_47 {U R : Int → Int} {m : Int} (hm : 0 ≤ m ∧ m ≤ 29) (hR : R 27 = m) : ∀ (k : Nat) (j : Int), j + k = 110 → 0 ≤ j →
    Q 0 t (upr (upr D 43 (cpf U (fun i => D 42 (i - 110 * m)) (110 * m) (110 * m + 110))) 28 (ui R 27 (m + 1))) →
    wp S 131 47 [some (qs 28), some (qi j)] [] t (upr (upr D 43 (cpf U (fun i => D 42 (i - 110 * m)) (110 * m) (110 * m + j))) 28 R) Q := by
  intro k
  induction k with
  | zero =>
    intro j hk hj hQ
    obtain rfl : j = 110 := by omega
    refine b131_47 (chk_i (by omega) (ite_i (fun h => absurd h (by omega)) fun h => ?_))
    simp only [up_eq, upr_u, upr_s, hR]
    exact hQ
  | succ k ih =>
    intro j hk hj hQ
    refine b131_47 (chk_i (by omega) (ite_i (fun h => ?_) fun h => absurd h (by omega)))
    simp only [up_eq, upr_u, upr_s, upr_b, Nat.reduceBEq, hR]
    refine chk_i (by omega) (chk_i (by omega) ?_)
    have e : D 42 j = (fun i => D 42 (i - 110 * m)) (110 * m + j) := by show D 42 j = D 42 _; congr 1; omega
    rw [e, upr_c (a := 28) (b := 43) (by decide), upr_u, cpf_s (g := fun i => D 42 (i - 110 * m)) (by omega), show 110 * m + j + 1 = 110 * m + (j + 1) by omega]
    exact ih (j + 1) (by omega) (by omega) hQ
theorem c131_11 : ∀ (k : Nat) (j : Int), j + k = 3190 → 0 ≤ j →
    (wp S 131 47 [some (qs 28), some (qi 0)] [] t (upr (upr D 43 (cpf (D 43) (fun i => D 43 (i + 110)) 0 3190)) 28 (ui (D 28) 27 29)) Q) →
    wp S 131 11 [some (qs 28), some (qi j)] [] t (upr D 43 (cpf (D 43) (fun i => D 43 (i + 110)) 0 j)) Q := by
  intro k
  induction k with
  | zero =>
    intro j hk hj hQ
    obtain rfl : j = 3190 := by omega
    refine b131_11 (chk_i (by omega) (ite_i (fun h => absurd h (by omega)) fun h => ?_))
    simp only [up_eq, upr_b, Nat.reduceBEq]
    exact hQ
  | succ k ih =>
    intro j hk hj hQ
    refine b131_11 (chk_i (by omega) (ite_i (fun h => chk_i (by omega) (chk_i (by omega) ?_)) fun h => absurd h (by omega)))
    simp only [up_eq, upr_u, upr_s]
    rw [cpf_n (i := j + 110) (by omega), cpf_s (g := fun i => D 43 (i + 110)) (by omega)]
    exact ih (j + 1) (by omega) (by omega) hQ
theorem c131 (hm : 0 ≤ D 28 27 ∧ D 28 27 ≤ 30) (k : Q 0 t (sKeep D)) : wp S 131 0 [some (qs 28), none] [] t D Q := by
  unfold sKeep sPush sPushN at k
  refine b131_0 (chk_i (by omega) (ite_i (fun h => ?_) fun h => ?_))
  · rw [if_pos h, if_pos h] at k
    have h1 := c131_11 (S := S) (t := t) (D := D) (Q := Q) 3190 0 rfl (Int.le_refl _) ?_
    · rw [cpf_0, upr_id] at h1
      exact h1
    · have h2 := c131_47 (S := S) (t := t) (D := D) (Q := Q) (U := cpf (D 43) (fun i => D 43 (i + 110)) 0 3190) (R := ui (D 28) 27 29) (m := 29) (by omega) ui_s 110 0 rfl (Int.le_refl _) ?_
      · rw [show (110 * 29 + 0 : Int) = 110 * 29 from rfl, cpf_0] at h2
        exact h2
      · rw [ui_u]
        exact k
  · rw [if_neg h, if_neg h] at k
    have h2 := c131_47 (S := S) (t := t) (D := D) (Q := Q) (U := D 43) (R := D 28) (m := D 28 27) (by omega) rfl 110 0 rfl (Int.le_refl _) k
    rw [Int.add_zero, cpf_0, upr_id, upr_id] at h2
    exact h2
def sPop (D : qD) : qD := upr (upr D 28 (ui (D 28) 27 (D 28 27 - 1))) 42 (cpf (D 42) (fun i => D 43 (110 * (D 28 27 - 1) + i)) 0 110)
theorem c132_22 {m : Int} (hm : 0 ≤ m ∧ m ≤ 29) (h27 : D 28 27 = m) : ∀ (k : Nat) (j : Int), j + k = 110 → 0 ≤ j →
    Q m t (upr D 42 (cpf (D 42) (fun i => D 43 (110 * m + i)) 0 110)) →
    wp S 132 22 [some (qs 28), some (qi j)] [] t (upr D 42 (cpf (D 42) (fun i => D 43 (110 * m + i)) 0 j)) Q := by
  intro k
  induction k with
  | zero =>
    intro j hk hj hQ
    obtain rfl : j = 110 := by omega
    refine b132_22 (chk_i (by omega) (ite_i (fun h => absurd h (by omega)) fun h => ?_))
    simp only [upr_b, Nat.reduceBEq, h27]
    exact hQ
  | succ k ih =>
    intro j hk hj hQ
    refine b132_22 (chk_i (by omega) (ite_i (fun h => ?_) fun h => absurd h (by omega)))
    simp only [up_eq, upr_u, upr_s, upr_b, Nat.reduceBEq, h27]
    refine chk_i (by omega) (chk_i (by omega) ?_)
    rw [cpf_s (g := fun i => D 43 (110 * m + i)) (by omega)]
    exact ih (j + 1) (by omega) (by omega) hQ
theorem c132 (hm : 0 ≤ D 28 27 ∧ D 28 27 ≤ 30) (k : if D 28 27 = 0 then Q (-103) t D else Q (D 28 27 - 1) t (sPop D)) : wp S 132 0 [some (qs 28), none] [] t D Q := by
  refine b132_0 (chk_i (by omega) (ite_i (fun h => ?_) fun h => ?_))
  · rwa [if_pos h] at k
  · rw [if_neg h] at k
    rw [up_eq]
    have := c132_22 (S := S) (t := t) (D := upr D 28 (ui (D 28) 27 (D 28 27 - 1))) (Q := Q) (m := D 28 27 - 1) (by omega) (by rw [upr_s, ui_s]) 110 0 rfl (Int.le_refl _) ?_
    · rw [cpf_0, upr_id] at this
      exact this
    · exact k
end RE
