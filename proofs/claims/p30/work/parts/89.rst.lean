/-! ## the reference's cells alone; what a call leaves of them -/
/-- what is given of the reference is kept by each call -/
theorem RVs.u {D E : qD} (h : RVs D) (hS : SC D E) (h42 : RVd (D 28 14) (E 42)) (h27 : 0 ≤ E 28 27 ∧ E 28 27 ≤ 30) (h31 : 0 ≤ E 28 31 ∧ E 28 31 ≤ 6) (h1 : 0 ≤ E 28 1 ∧ E 28 1 ≤ 100) (h15 : 0 ≤ E 28 15 ∧ E 28 15 ≤ 512) (h44 : ∀ i, 0 ≤ i → i < 24 → 0 ≤ E 44 i ∧ E 44 i ≤ 4) (h29 : ∀ i, 0 ≤ i → i < E 28 1 → 1 ≤ E 29 i ∧ E 29 i ≤ 126) : RVs E :=
  ⟨h.1.sc hS, by rw [hS.1]; exact h42, h27, h31, h1, h15, h44, h29⟩
theorem RVs.keep {D : qD} {N : Int → Int} (h : RVs D) (hN : RVd (D 28 14) N) : RVs (upr (sKeep D) 42 N) ∧ upr (sKeep D) 42 N 28 15 = D 28 15 := by
  have e28 : ∀ i, i ≠ 27 → upr (sKeep D) 42 N 28 i = D 28 i := fun i hi => by rw [upr_n (by decide), sKeep_28 hi]
  have e27 : upr (sKeep D) 42 N 28 27 = sPushN (D 28 27) := by rw [upr_n (by decide)]; unfold sKeep; rw [upr_s, ui_s]
  have eb : ∀ b, b ≠ 43 → b ≠ 28 → b ≠ 42 → upr (sKeep D) 42 N b = D b := fun b h1 h2 h3 => by rw [upr_n h3, sKeep_n h1 h2]
  have h27 := h.2.2.1
  refine ⟨h.u (SC.keep.trans SC.u42) (by rw [upr_s]; exact hN) ?_ (by rw [e28 _ (by decide)]; exact h.2.2.2.1) (by rw [e28 _ (by decide)]; exact h.2.2.2.2.1) (by rw [e28 _ (by decide)]; exact h.2.2.2.2.2.1) (by rw [eb 44 (by decide) (by decide) (by decide)]; exact h.2.2.2.2.2.2.1) (by rw [e28 _ (by decide), eb 29 (by decide) (by decide) (by decide)]; exact h.2.2.2.2.2.2.2), e28 _ (by decide)⟩
  rw [e27]; unfold sPushN; split <;> omega
def RK (D E : qD) : Prop := RVs E ∧ E 28 15 = D 28 15
theorem RK.c {D : qD} {c : Prop} [Decidable c] {x y : Int × qD} (h1 : c → RK D x.2) (h2 : ¬ c → RK D y.2) : RK D (if c then x else y).2 := by
  by_cases h : c
  · rw [if_pos h]; exact h1 h
  · rw [if_neg h]; exact h2 h
theorem rk_call {D : qD} {f : Int} (h : RVs D) : RK D (pCall D f).2 := by
  have h13 := h.2.1.1
  exact RK.c (fun _ => ⟨h, rfl⟩) fun c => RK.c (fun _ => ⟨h, rfl⟩) fun c2 => h.keep (h.2.1.call h.1 (Decidable.not_not.mp c) (by omega))
theorem rk_go {D : qD} {b : Int} (h : RVs D) : RK D (pGo D b).2 := by
  have h13 := h.2.1.1
  exact RK.c (fun _ => ⟨h, rfl⟩) fun c => RK.c (fun _ => ⟨h, rfl⟩) fun c2 => RK.c (fun _ => ⟨h, rfl⟩) fun c3 => h.keep (sGo_r h.1 b.toNat (D 42) h.2.1 (by omega) (by omega)).1
theorem rk_set {D : qD} {r v : Int} (h : RVs D) : RK D (pSet D r v).2 :=
  RK.c (fun _ => ⟨h, rfl⟩) fun c => RK.c (fun _ => ⟨h, rfl⟩) fun c2 => RK.c (fun _ => ⟨h, rfl⟩) fun _ => h.keep (h.2.1.rg (by omega) ⟨by omega, by omega⟩)
theorem rk_back {D : qD} (h : RVs D) : RK D (pBack D).2 := by
  have h13 := h.2.1.1
  exact RK.c (fun _ => ⟨h, rfl⟩) fun c => h.keep (h.2.1.back h.1 (by omega))
theorem rk_raise {D : qD} {ty : Int} (h : RVs D) : RK D (pRaise D ty).2 :=
  RK.c (fun _ => ⟨h, rfl⟩) fun c => RK.c (fun _ => ⟨h, rfl⟩) fun c2 => RK.c (fun _ => ⟨h, rfl⟩) fun c3 => h.keep (by
    have := sCat_cp h.2.1 ty c3
    exact (sRaise_r h.1 h.2.1 this.1 ⟨this.2.1, this.2.2.2⟩).1)
theorem rk_change {D : qD} {f p kd : Int} (h : RVs D) : RK D (pChange D f p kd).2 :=
  RK.c (fun _ => ⟨h, rfl⟩) fun c => RK.c (fun _ => ⟨h, rfl⟩) fun c2 => h.keep (by
    have c := Decidable.not_not.mp c
    have h1 := h.1.1
    have h2 := h.1.2.1 f c.1 c.2.1
    exact h.2.1.kd (by omega) (by omega))
theorem rk_undo {D : qD} : (pUndo D).2 28 15 = D 28 15 := by
  unfold pUndo
  split
  · rfl
  · show sPop D 28 15 = _
    unfold sPop
    rw [upr_n (by decide), upr_s, ui_n (by decide)]
theorem rk_restore {D : qD} : (pRestore D).2 28 15 = D 28 15 := by
  unfold pRestore
  split
  · rfl
  · rfl
theorem rk_letter {D : qD} {c : Int} (h : RVs D) : RK D (pLetter D c).2 :=
  RK.c (fun _ => ⟨h, rfl⟩) fun c1 => RK.c (fun _ => ⟨h, rfl⟩) fun c2 => by
    have h1 := h.2.2.2.2.1
    have e1 : (upr (upr D 29 (ui (D 29) (D 28 1) c)) 28 (ui (D 28) 1 (D 28 1 + 1))) 28 1 = D 28 1 + 1 := rfl
    refine ⟨h.u ⟨rfl, rfl, rfl, rfl, rfl, rfl, rfl, rfl⟩ h.2.1 h.2.2.1 h.2.2.2.1 ?_ h.2.2.2.2.2.1 h.2.2.2.2.2.2.1 ?_, rfl⟩
    · show 0 ≤ (upr (upr D 29 (ui (D 29) (D 28 1) c)) 28 (ui (D 28) 1 (D 28 1 + 1))) 28 1 ∧ (upr (upr D 29 (ui (D 29) (D 28 1) c)) 28 (ui (D 28) 1 (D 28 1 + 1))) 28 1 ≤ 100
      rw [e1]; omega
    · show ∀ i, 0 ≤ i → i < (upr (upr D 29 (ui (D 29) (D 28 1) c)) 28 (ui (D 28) 1 (D 28 1 + 1))) 28 1 → 1 ≤ ui (D 29) (D 28 1) c i ∧ ui (D 29) (D 28 1) c i ≤ 126
      rw [e1]
      intro i i0 i1
      by_cases e : i = D 28 1
      · rw [e, ui_s]; omega
      · rw [ui_n e]; exact h.2.2.2.2.2.2.2 i i0 (by omega)
theorem rk_blank {D : qD} (h : RVs D) : RK D (pBlank D).2 := by
  have e1 : (pBlank D).2 28 1 = 0 := rfl
  refine ⟨h.u ⟨rfl, rfl, rfl, rfl, rfl, rfl, rfl, rfl⟩ h.2.1 h.2.2.1 h.2.2.2.1 ?_ h.2.2.2.2.2.1 h.2.2.2.2.2.2.1 ?_, rfl⟩
  · rw [e1]; exact ⟨Int.le_refl _, by decide⟩
  · rw [e1]; exact fun i i0 i1 => absurd i1 (by omega)
theorem rk_forget {D : qD} (h : RVs D) : RK D (pForget D).2 := by
  have e1 : (pForget D).2 28 31 = 0 := rfl
  refine ⟨h.u ⟨rfl, rfl, rfl, rfl, rfl, rfl, rfl, rfl⟩ h.2.1 h.2.2.1 ?_ h.2.2.2.2.1 h.2.2.2.2.2.1 h.2.2.2.2.2.2.1 h.2.2.2.2.2.2.2, rfl⟩
  rw [e1]; exact ⟨Int.le_refl _, by decide⟩
theorem rk_image {D : qD} (h : RVs D) : RK D (pImage D).2 :=
  RK.c (fun _ => ⟨h, rfl⟩) fun _ => ⟨h.u ⟨rfl, rfl, rfl, rfl, rfl, rfl, rfl, rfl⟩ h.2.1 h.2.2.1 h.2.2.2.1 h.2.2.2.2.1 h.2.2.2.2.2.1 h.2.2.2.2.2.2.1 h.2.2.2.2.2.2.2, rfl⟩
theorem rk_see {D : qD} {f p ty did : Int} (h : RVs D) : RK D (pSee D f p ty did).2 :=
  RK.c (fun _ => ⟨h, rfl⟩) fun c1 => RK.c (fun _ => ⟨h, rfl⟩) fun c2 => RK.c (fun _ => ⟨h, rfl⟩) fun c3 => RK.c (fun _ => ⟨h, rfl⟩) fun c4 => by
    have h31 := h.2.2.2.1
    have h1 := h.1.1
    have c1 := Decidable.not_not.mp c1
    have h2 := h.1.2.1 f c1.1 c1.2.1
    refine ⟨h.u ⟨rfl, rfl, rfl, rfl, rfl, rfl, rfl, rfl⟩ h.2.1 h.2.2.1 ?_ h.2.2.2.2.1 h.2.2.2.2.2.1 (fun i i0 i1 => ?_) h.2.2.2.2.2.2.2, rfl⟩
    · show 0 ≤ D 28 31 + 1 ∧ D 28 31 + 1 ≤ 6
      omega
    · have h44 := h.2.2.2.2.2.2.1 i i0 i1
      show 0 ≤ ui (ui (ui (ui (D 44) (4 * D 28 31) f) (4 * D 28 31 + 1) p) (4 * D 28 31 + 2) ty) (4 * D 28 31 + 3) did i ∧ ui (ui (ui (ui (D 44) (4 * D 28 31) f) (4 * D 28 31 + 1) p) (4 * D 28 31 + 2) ty) (4 * D 28 31 + 3) did i ≤ 4
      unfold ui
      clear h
      split
      · omega
      · split
        · omega
        · split
          · omega
          · split
            · omega
            · exact h44
theorem TX.rk {G E : qD} {nf : Nat} (h : TX G E nf) (hG : RVs G) (h15 : G 28 15 < 512) : RVs E ∧ E 28 15 = G 28 15 + 1 := by
  have hC := h.cv
  have hV := h.rv
  obtain ⟨-, -, ⟨e14, e27, e31, e15, e1, e35⟩, eb, -, -⟩ := h
  have h15' := hG.2.2.2.2.2.1
  refine ⟨⟨hC, hV, ?_, ?_, ?_, ?_, ?_, ?_⟩, e15⟩
  · rw [e27]; exact ⟨Int.le_refl _, by decide⟩
  · rw [e31]; exact ⟨Int.le_refl _, by decide⟩
  · rw [e1]; exact ⟨Int.le_refl _, by decide⟩
  · rw [e15]; omega
  · rw [eb 44 (by omega)]; exact hG.2.2.2.2.2.2.1
  · rw [e1]; exact fun i i0 i1 => absurd i1 (by omega)