/-! ## rows stay rows -/
section RD
variable {S : (Nat → Int32) × Nat} {t : qT} {D : qD} {Q : Int → qT → qD → Prop}
theorem sSv_n {f a : Int} (hC : CVd D) (hf : 0 ≤ f ∧ f < D 28 14) : ∀ (k : Nat) (n adr : Int) (N : Int → Int) (i : Int), 0 ≤ n → ¬ (a + 2 ≤ i ∧ i ≤ a + 7) → sSv (D 37) (D 39) f a k n adr N i = N i := by
  intro k
  induction k with
  | zero => intro n adr N i _ _; rfl
  | succ k ih =>
    intro n adr N i hn hi
    unfold sSv
    split
    · rename_i h
      have h3 := hC.2.2.1 f n hf.1 hf.2 hn h
      split
      · exact ih _ _ _ _ (by omega) hi
      · split
        · rename_i h5
          rw [ih _ _ _ _ (by omega) hi, ui_n (by omega)]
        · exact ih _ _ _ _ (by omega) hi
    · rfl
theorem sSv_R {f a : Int} (hC : CVd D) (hf : 0 ≤ f ∧ f < D 28 14) : ∀ (k : Nat) (n adr : Int) (N : Int → Int), 0 ≤ n → (∀ j, 0 ≤ j → j < 110 → qR (N j)) → ∀ j, 0 ≤ j → j < 110 → qR (sSv (D 37) (D 39) f a k n adr N j) := by
  intro k
  induction k with
  | zero => intro n adr N _ h; exact h
  | succ k ih =>
    intro n adr N hn hN
    unfold sSv
    split
    · rename_i h
      have h3 := hC.2.2.1 f n hf.1 hf.2 hn h
      split
      · exact ih _ _ _ (by omega) hN
      · split
        · rename_i h5
          refine ih _ _ _ (by omega) fun j h1 h2 => ?_
          unfold ui
          split
          · exact hN _ (by omega) (by omega)
          · exact hN _ h1 h2
        · exact ih _ _ _ (by omega) hN
    · exact hN
theorem RVd.sv {f a L : Int} {N : Int → Int} {n adr : Int} {k : Nat} (hC : CVd D) (hf : 0 ≤ f ∧ f < D 28 14) (hn : 0 ≤ n) (ha : a = 14 + 8 * L) (hL : 0 ≤ L ∧ L < 8) (h : RVd (D 28 14) N) : RVd (D 28 14) (sSv (D 37) (D 39) f a k n adr N) := by
  obtain ⟨h1, h3, h4, h5, h6⟩ := h
  refine ⟨?_, fun l x y => ?_, fun k x y => ?_, ?_, sSv_R hC hf _ _ _ _ hn h6⟩
  · rw [sSv_n hC hf _ _ _ _ _ hn (by omega)]; exact h1
  · rw [sSv_n hC hf _ _ _ _ _ hn (by omega)] at y
    rw [sSv_n hC hf _ _ _ _ _ hn (by omega), sSv_n hC hf _ _ _ _ _ hn (by omega)]
    exact h3 l x y
  · rw [sSv_n hC hf _ _ _ _ _ hn (by omega)]; exact h4 k x y
  · rw [sSv_n hC hf _ _ _ _ _ hn (by omega)]; exact h5
theorem RVd.call {f : Int} {N : Int → Int} (hC : CVd D) (hf : 0 ≤ f ∧ f < D 28 14) (h13 : N 13 < 8) (h : RVd (D 28 14) N) : RVd (D 28 14) (sCall (D 37) (D 39) N f) := by
  unfold sCall
  have h13' := h.1
  refine RVd.sv (L := N 13) hC hf (Int.le_refl 0) rfl (by omega) ?_
  have h0 := hC.1
  obtain ⟨h1, h3, h4, h5, h6⟩ := h
  have e : ∀ i, ui (sClr (ui N 13 (N 13 + 1)) (14 + 8 * N 13)) (14 + 8 * N 13) f i = if i = 14 + 8 * N 13 then f else if 14 + 8 * N 13 ≤ i ∧ i < 14 + 8 * N 13 + 8 then 0 else if i = 13 then N 13 + 1 else N i := fun i => rfl
  refine ⟨?_, fun l x y => ?_, fun k x y => ?_, ?_, fun k x y => ?_⟩
  · rw [e, if_neg (by omega), if_neg (by omega), if_pos rfl]; omega
  · rw [e, if_neg (by omega), if_neg (by omega), if_pos rfl] at y
    rw [e, e]
    by_cases c : l = N 13
    · rw [if_pos (by omega), if_neg (by omega), if_pos (by omega)]; omega
    · rw [if_neg (by omega), if_neg (by omega), if_neg (by omega), if_neg (by omega), if_neg (by omega), if_neg (by omega)]
      exact h3 l x (by omega)
  · rw [e, if_neg (by omega), if_neg (by omega), if_neg (by omega)]; exact h4 k x y
  · rw [e, if_neg (by omega), if_neg (by omega), if_neg (by omega)]; exact h5
  · rw [e]
    have := h6 k x y
    (repeat' split) <;> omega
theorem RVd.ui1 {N : Int → Int} {nf x : Int} (h13 : 1 ≤ N 13) (hx : 0 ≤ x ∧ x ≤ 9) (h : RVd nf N) : RVd nf (ui N (sAt N 0 + 1) x) := by
  have ha := sAt_r h (Int.le_refl 0) (by omega)
  have hs : sAt N 0 = 14 + 8 * (N 13 - 1) := by unfold sAt; omega
  obtain ⟨h1, h3, h4, h5, h6⟩ := h
  refine ⟨?_, fun l x y => ?_, fun k x y => ?_, ?_, fun k x y => ?_⟩
  · rw [ui_n (by omega)]; exact h1
  · rw [ui_n (by omega)] at y
    rw [ui_n (by omega), ui_ap]
    have := h3 l x y
    split <;> omega
  · rw [ui_n (by omega)]; exact h4 k x y
  · rw [ui_n (by omega)]; exact h5
  · rw [ui_ap]
    have := h6 k x y
    split <;> omega
theorem RVd.step {N : Int → Int} (hC : CVd D) (h13 : 1 ≤ N 13) (h9 : N (sAt N 0 + 1) < 9) (h : RVd (D 28 14) N) : RVd (D 28 14) (sStep (D 37) (D 39) N) := by
  have ha := sAt_r h (Int.le_refl 0) (by omega)
  have h1 := h.1
  exact RVd.sv (L := N 13 - 1) hC ha.2.1 (Int.le_refl 0) (by unfold sAt; omega) (by omega) (RVd.ui1 h13 (by omega) h)
theorem sStep_13 {N : Int → Int} (hC : CVd D) (h13 : 1 ≤ N 13) (h : RVd (D 28 14) N) : sStep (D 37) (D 39) N 13 = N 13 ∧ sAt (sStep (D 37) (D 39) N) 0 = sAt N 0 ∧ sStep (D 37) (D 39) N (sAt N 0) = N (sAt N 0) ∧ sStep (D 37) (D 39) N (sAt N 0 + 1) = N (sAt N 0 + 1) + 1 := by
  have ha := sAt_r h (Int.le_refl 0) (by omega)
  have e1 : sStep (D 37) (D 39) N 13 = N 13 := by
    unfold sStep
    rw [sSv_n hC ha.2.1 _ _ _ _ _ (Int.le_refl 0) (by omega), ui_n (by omega)]
  refine ⟨e1, by unfold sAt; rw [e1], ?_, ?_⟩
  · unfold sStep
    rw [sSv_n hC ha.2.1 _ _ _ _ _ (Int.le_refl 0) (by omega), ui_n (by omega)]
  · unfold sStep
    rw [sSv_n hC ha.2.1 _ _ _ _ _ (Int.le_refl 0) (by omega), ui_s]
theorem RVd.back {N : Int → Int} (hC : CVd D) (h13 : 1 ≤ N 13) (h : RVd (D 28 14) N) : RVd (D 28 14) (sBack (D 34) N) := by
  have ha := sAt_r h (Int.le_refl 0) (by omega)
  have h0 := hC.1
  obtain ⟨h1, h3, h4, h5, h6⟩ := h
  unfold sBack
  refine ⟨?_, fun l x y => ?_, fun k x y => ?_, ?_, fun k x y => ?_⟩
  · rw [ui_s]; omega
  · rw [ui_s] at y
    rw [ui_n (by omega), cpf_n (by omega), ui_n (by omega), cpf_n (by omega)]
    exact h3 l x (by omega)
  · rw [ui_n (by omega), cpf_n (by omega)]; exact h4 k x y
  · rw [ui_n (by omega), cpf_n (by omega)]; exact h5
  · rw [ui_ap]
    have h7 := h6 k x y
    split
    · omega
    · by_cases c : 9 ≤ k ∧ k < 13
      · rw [cpf_y c]
        unfold sReg
        split
        · exact h7
        · have := hC.2.2.2.1 (40 * N (sAt N 0) + 4 * N (sAt N 0 + 1) + (k - 9)) (by omega) (by omega)
          unfold sCell at *
          exact h6 _ (by omega) (by omega)
      · rw [cpf_n c]; exact h7
theorem sFin_r {nf ty bef : Int} {pd : Int → Int} (hnf : nf ≤ 3) (hb : bef ≤ 3) : ∀ (k : Nat) (p : Int) (N : Int → Int), 0 ≤ p → RVd nf N → 1 ≤ N 13 → N 78 + k ≤ 24 → RVd nf (sFin pd ty bef k p N) ∧ (∀ i, i < 78 → sFin pd ty bef k p N i = N i) ∧ N 78 ≤ sFin pd ty bef k p N 78 ∧ sFin pd ty bef k p N 78 ≤ N 78 + k := by
  intro k
  induction k with
  | zero => intro p N _ h _ _; exact ⟨h, fun _ _ => rfl, Int.le_refl _, by show N 78 ≤ N 78 + (0 : Nat); omega⟩
  | succ k ih =>
    intro p N hp h h13 h78
    have ha := sAt_r h (Int.le_refl 0) (by omega)
    have h4 := h.2.2.2.1
    unfold sFin
    split
    · rename_i hlt
      split
      · have := ih (p + 1) (ui (ui N (79 + N 78) (10 * N (sAt N 0) + p)) 78 (N 78 + 1)) (by omega) (h.fin (by omega) (by omega)) (by rw [ui_n (by omega), ui_n (by omega)]; exact h13) (by rw [ui_s]; omega)
        rw [ui_s] at this
        refine ⟨this.1, fun i hi => ?_, by omega, by omega⟩
        rw [this.2.1 i hi, ui_n (by omega), ui_n (by omega)]
      · have := ih (p + 1) N (by omega) h h13 (by omega)
        exact ⟨this.1, this.2.1, by omega, by omega⟩
    · exact ⟨h, fun _ _ => rfl, Int.le_refl _, by omega⟩
theorem sGo_r (hC : CVd D) : ∀ (k : Nat) (N : Int → Int), RVd (D 28 14) N → 1 ≤ N 13 → N (sAt N 0 + 1) + k ≤ 9 → RVd (D 28 14) (sGo (D 37) (D 39) k N) ∧ sGo (D 37) (D 39) k N 13 = N 13 ∧ sGo (D 37) (D 39) k N (sAt N 0 + 1) = N (sAt N 0 + 1) + k := by
  intro k
  induction k with
  | zero => intro N h _ _; exact ⟨h, rfl, by show N _ = N _ + ((0 : Nat) : Int); omega⟩
  | succ k ih =>
    intro N hV h13 h9
    have hs := sStep_13 hC h13 hV
    have := ih (sStep (D 37) (D 39) N) (RVd.step hC h13 (by omega) hV) (by rw [hs.1]; exact h13) (by rw [hs.2.1, hs.2.2.2]; omega)
    refine ⟨this.1, this.2.1.trans hs.1, ?_⟩
    have h3 := this.2.2
    rw [hs.2.1, hs.2.2.2] at h3
    show sGo (D 37) (D 39) k (sStep (D 37) (D 39) N) _ = _
    rw [h3]; omega
end RD
