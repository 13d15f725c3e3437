/-! ## the reference's methods: thrown; kept and taken back -/
section RE
variable {S : (Nat → Int32) × Nat} {t : qT} {D : qD} {Q : Int → qT → qD → Prop}
theorem sAt_d {N M : Int → Int} {a b : Int} (h : M 13 - a = N 13 - b) : sAt M a = sAt N b := by unfold sAt; omega
/-- what one frame's going does -/
theorem sUn1_r {ty : Int} {N : Int → Int} (hC : CVd D) (h : RVd (D 28 14) N) (h13 : 2 ≤ N 13) (h78 : N 78 ≤ 21) :
    RVd (D 28 14) (sFin (D 40) ty (D 38 (N (sAt N 0))) 3 0 N) ∧ RVd (D 28 14) (sBack (D 34) (sFin (D 40) ty (D 38 (N (sAt N 0))) 3 0 N)) ∧
    sBack (D 34) (sFin (D 40) ty (D 38 (N (sAt N 0))) 3 0 N) 13 = N 13 - 1 ∧
    (∀ i, 14 ≤ i → i < 78 → sBack (D 34) (sFin (D 40) ty (D 38 (N (sAt N 0))) 3 0 N) i = N i) ∧
    sBack (D 34) (sFin (D 40) ty (D 38 (N (sAt N 0))) 3 0 N) 78 ≤ N 78 + 3 ∧ N 78 ≤ sBack (D 34) (sFin (D 40) ty (D 38 (N (sAt N 0))) 3 0 N) 78 ∧
    sFin (D 40) ty (D 38 (N (sAt N 0))) 3 0 N 13 = N 13 := by
  have ha := sAt_r h (Int.le_refl 0) (by omega)
  have h1 := hC.1
  have h2 := hC.2.1 _ ha.2.1.1 ha.2.1.2
  have hf := sFin_r (ty := ty) (bef := D 38 (N (sAt N 0))) (pd := D 40) h1.2 h2.2.2.2 3 0 N (Int.le_refl _) h (by omega) (by omega)
  have e13 := hf.2.1 13 (by omega)
  refine ⟨hf.1, RVd.back hC (by omega) hf.1, ?_, fun i h3 h4 => ?_, ?_, ?_, e13⟩
  · unfold sBack; rw [ui_s, e13]
  · unfold sBack; rw [ui_n (by omega), cpf_n (by omega)]; exact hf.2.1 i h4
  · unfold sBack; rw [ui_n (by omega), cpf_n (by omega)]; exact hf.2.2.2
  · unfold sBack; rw [ui_n (by omega), cpf_n (by omega)]; exact hf.2.2.1
theorem sEnd_r {ty cp : Int} {N : Int → Int} (hC : CVd D) (h : RVd (D 28 14) N) (h13 : 1 ≤ N 13) (h78 : N 78 ≤ 21) (hcp : 0 ≤ cp ∧ cp < D 38 (N (sAt N 0))) :
    RVd (D 28 14) (sEnd (D 40) ty cp N) ∧ sEnd (D 40) ty cp N 13 = N 13 := by
  have ha := sAt_r h (Int.le_refl 0) (by omega)
  have h1 := hC.1
  have h2 := hC.2.1 _ ha.2.1.1 ha.2.1.2
  have hf := sFin_r (ty := ty) (bef := cp) (pd := D 40) h1.2 (by omega) 3 0 N (Int.le_refl _) h (by omega) (by omega)
  have e13 := hf.2.1 13 (by omega)
  have es : sAt (sFin (D 40) ty cp 3 0 N) 0 = sAt N 0 := by unfold sAt; rw [e13]
  have hp := hC.2.2.2.2.2 _ cp ha.2.1.1 ha.2.1.2 hcp.1 hcp.2
  unfold sEnd
  refine ⟨?_, ?_⟩
  · rw [← es]
    refine RVd.ui1 (by omega) ?_ hf.1
    rw [es]; omega
  · rw [ui_n (by omega)]; exact e13
theorem RVd.u78 {nf : Int} {N : Int → Int} (hV : RVd nf N) : RVd nf (ui N 78 0) := by
  obtain ⟨h1, h3, h4, h5, h6⟩ := hV
  refine ⟨?_, fun l x y => ?_, fun k x y => ?_, ?_, fun k x y => ?_⟩
  · rw [ui_n (by omega)]; exact h1
  · rw [ui_n (by omega)] at y
    rw [ui_n (by omega), ui_n (by omega)]; exact h3 l x y
  · rw [ui_n (by omega)]; exact h4 k x y
  · rw [ui_s]; omega
  · have := h6 k x y
    rw [ui_ap]; split <;> omega
theorem sUnw_r {ty : Int} (hC : CVd D) : ∀ (k : Nat) (N : Int → Int), RVd (D 28 14) N → k < N 13 → N 78 + 3 * k ≤ 24 →
    RVd (D 28 14) (sUnw (D 34) (D 38) (D 40) ty k N) ∧ sUnw (D 34) (D 38) (D 40) ty k N 13 = N 13 - k ∧ (∀ i, 14 ≤ i → i < 78 → sUnw (D 34) (D 38) (D 40) ty k N i = N i) ∧ sUnw (D 34) (D 38) (D 40) ty k N 78 ≤ N 78 + 3 * k := by
  intro k
  induction k with
  | zero => intro N h _ _; exact ⟨h, by show N 13 = N 13 - ((0 : Nat) : Int); omega, fun _ _ _ => rfl, by show N 78 ≤ _; omega⟩
  | succ k ih =>
    intro N hV h13 h78
    have hu := sUn1_r (ty := ty) hC hV (by omega) (by omega)
    have := ih _ hu.2.1 (by rw [hu.2.2.1]; omega) (by have := hu.2.2.2.2.1; omega)
    have h5 := hu.2.2.2.2.1
    have h3 := hu.2.2.1
    refine ⟨this.1, ?_, fun i h1 h2 => (this.2.2.1 i h1 h2).trans (hu.2.2.2.1 i h1 h2), ?_⟩
    · show sUnw (D 34) (D 38) (D 40) ty k _ 13 = _
      rw [this.2.1]; omega
    · have := this.2.2.2
      show sUnw (D 34) (D 38) (D 40) ty k _ 78 ≤ _
      omega
theorem sRaise_r {ty c cp : Int} {N : Int → Int} (hC : CVd D) (hV : RVd (D 28 14) N) (hc : 0 ≤ c ∧ c < N 13) (hcp : 0 ≤ cp ∧ cp < D 38 (N (sAt N c))) :
    RVd (D 28 14) (sRaise (D 34) (D 38) (D 40) N ty c cp) ∧ sRaise (D 34) (D 38) (D 40) N ty c cp 13 = N 13 - c := by
  have h13 := hV.1
  have hb : 14 ≤ sAt N c ∧ sAt N c < 78 := by unfold sAt; omega
  have hu := sUnw_r (ty := ty) hC c.toNat (ui N 78 0) hV.u78 (by rw [ui_n (by omega)]; omega) (by rw [ui_s]; omega)
  rw [ui_n (by omega), ui_s] at hu
  have es : sAt (sUnw (D 34) (D 38) (D 40) ty c.toNat (ui N 78 0)) 0 = sAt N c := by unfold sAt; rw [hu.2.1]; omega
  have := sEnd_r (ty := ty) (cp := cp) hC hu.1 (by omega) (by omega) (by rw [es, hu.2.2.1 _ hb.1 hb.2, ui_n (by omega)]; exact hcp)
  refine ⟨this.1, ?_⟩
  show sEnd _ _ _ _ 13 = _
  rw [this.2, hu.2.1]; omega
/-! ### kept -/
def sPush (U N : Int → Int) (m : Int) : Int → Int := if m = 30 then cpf (cpf U (fun i => U (i + 110)) 0 3190) (fun i => N (i - 3190)) 3190 3300 else cpf U (fun i => N (i - 110 * m)) (110 * m) (110 * m + 110)
def sPushN (m : Int) : Int := if m = 30 then 30 else m + 1
def sKeep (D : qD) : qD := upr (upr D 43 (sPush (D 43) (D 42) (D 28 27))) 28 (ui (D 28) 27 (sPushN (D 28 27)))
def sPop (D : qD) : qD := upr (upr D 28 (ui (D 28) 27 (D 28 27 - 1))) 42 (cpf (D 42) (fun i => D 43 (110 * (D 28 27 - 1) + i)) 0 110)
end RE
