/-! ## rows stay rows -/
section RD
variable {S : (Nat → Int32) × Nat} {t : qT} {D : qD} {Q : Int → qT → qD → Prop}
theorem sSv_n {f a : Int} (hC : CVd D) (hf : 0 ≤ f ∧ f < D 28 14) : ∀ (k : Nat) (n adr : Int) (N : Int → Int) (i : Int), 0 ≤ n → ¬ (a + 2 ≤ i ∧ i ≤ a + 7) → sSv (D 37) (D 39) f a k n adr N i = N i := by
  intro k
  induction k with
  | zero => intro n adr N i _ _; rfl
  | succ k ih =>
    intro n adr N i hn hi
    unfold sSv
    split
    · rename_i h
      have h3 := hC.2.2.1 f n hf.1 hf.2 hn h
      split
      · exact ih _ _ _ _ (by omega) hi
      · split
        · rename_i h5
          rw [ih _ _ _ _ (by omega) hi, ui_n (by omega)]
        · exact ih _ _ _ _ (by omega) hi
    · rfl
theorem sSv_R {f a : Int} (hC : CVd D) (hf : 0 ≤ f ∧ f < D 28 14) : ∀ (k : Nat) (n adr : Int) (N : Int → Int), 0 ≤ n → (∀ j, 0 ≤ j → j < 110 → qR (N j)) → ∀ j, 0 ≤ j → j < 110 → qR (sSv (D 37) (D 39) f a k n adr N j) := by
  intro k
  induction k with
  | zero => intro n adr N _ h; exact h
  | succ k ih =>
    intro n adr N hn hN
    unfold sSv
    split
    · rename_i h
      have h3 := hC.2.2.1 f n hf.1 hf.2 hn h
      split
      · exact ih _ _ _ (by omega) hN
      · split
        · rename_i h5
          refine ih _ _ _ (by omega) fun j h1 h2 => ?_
          unfold ui
          split
          · exact hN _ (by omega) (by omega)
          · exact hN _ h1 h2
        · exact ih _ _ _ (by omega) hN
    · exact hN
theorem RVd.sv {f a L : Int} {N : Int → Int} {n adr : Int} {k : Nat} (hC : CVd D) (hf : 0 ≤ f ∧ f < D 28 14) (hn : 0 ≤ n) (ha : a = 14 + 8 * L) (hL : 0 ≤ L ∧ L < 8) (h : RVd (D 28 14) N) : RVd (D 28 14) (sSv (D 37) (D 39) f a k n adr N) := by
  obtain ⟨h1, h3, h4, h5, h6⟩ := h
  refine ⟨?_, fun l x y => ?_, fun k x y => ?_, ?_, sSv_R hC hf _ _ _ _ hn h6⟩
  · rw [sSv_n hC hf _ _ _ _ _ hn (by omega)]; exact h1
  · rw [sSv_n hC hf _ _ _ _ _ hn (by omega)] at y
    rw [sSv_n hC hf _ _ _ _ _ hn (by omega), sSv_n hC hf _ _ _ _ _ hn (by omega)]
    exact h3 l x y
  · rw [sSv_n hC hf _ _ _ _ _ hn (by omega)]; exact h4 k x y
  · rw [sSv_n hC hf _ _ _ _ _ hn (by omega)]; exact h5
theorem RVd.call {f : Int} {N : Int → Int} (hC : CVd D) (hf : 0 ≤ f ∧ f < D 28 14) (h13 : N 13 < 8) (h : RVd (D 28 14) N) : RVd (D 28 14) (sCall (D 37) (D 39) N f) := by
  unfold sCall
  have h13' := h.1
  refine RVd.sv (L := N 13) hC hf (Int.le_refl 0) rfl (by omega) ?_
  have h0 := hC.1
  obtain ⟨h1, h3, h4, h5, h6⟩ := h
  have e : ∀ i, ui (sClr (ui N 13 (N 13 + 1)) (14 + 8 * N 13)) (14 + 8 * N 13) f i = if i = 14 + 8 * N 13 then f else if 14 + 8 * N 13 ≤ i ∧ i < 14 + 8 * N 13 + 8 then 0 else if i = 13 then N 13 + 1 else N i := fun i => rfl
  refine ⟨?_, fun l x y => ?_, fun k x y => ?_, ?_, fun k x y => ?_⟩
  · rw [e, if_neg (by omega), if_neg (by omega), if_pos rfl]; omega
  · rw [e, if_neg (by omega), if_neg (by omega), if_pos rfl] at y
    rw [e, e]
    by_cases c : l = N 13
    · rw [if_pos (by omega), if_neg (by omega), if_pos (by omega)]; omega
    · rw [if_neg (by omega), if_neg (by omega), if_neg (by omega), if_neg (by omega), if_neg (by omega), if_neg (by omega)]
      exact h3 l x (by omega)
  · rw [e, if_neg (by omega), if_neg (by omega), if_neg (by omega)]; exact h4 k x y
  · rw [e, if_neg (by omega), if_neg (by omega), if_neg (by omega)]; exact h5
  · rw [e]
    have := h6 k x y
    (repeat' split) <;> omega
theorem RVd.ui1 {N : Int → Int} {nf x : Int} (h13 : 1 ≤ N 13) (hx : 0 ≤ x ∧ x ≤ 9) (h : RVd nf N) : RVd nf (ui N (sAt N 0 + 1) x) := by
  have ha := sAt_r h (Int.le_refl 0) (by omega)
  have hs : sAt N 0 = 14 + 8 * (N 13 - 1) := by unfold sAt; omega
  obtain ⟨h1, h3, h4, h5, h6⟩ := h
  refine ⟨?_, fun l x y => ?_, fun k x y => ?_, ?_, fun k x y => ?_⟩
  · rw [ui_n (by omega)]; exact h1
  · rw [ui_n (by omega)] at y
    rw [ui_n (by omega), ui_ap]
    have := h3 l x y
    split <;> omega
  · rw [ui_n (by omega)]; exact h4 k x y
  · rw [ui_n (by omega)]; exact h5
  · rw [ui_ap]
    have := h6 k x y
    split <;> omega
theorem RVd.step {N : Int → Int} (hC : CVd D) (h13 : 1 ≤ N 13) (h9 : N (sAt N 0 + 1) < 9) (h : RVd (D 28 14) N) : RVd (D 28 14) (sStep (D 37) (D 39) N) := by
  have ha := sAt_r h (Int.le_refl 0) (by omega)
  have h1 := h.1
  exact RVd.sv (L := N 13 - 1) hC ha.2.1 (Int.le_refl 0) (by unfold sAt; omega) (by omega) (RVd.ui1 h13 (by omega) h)
theorem sStep_13 {N : Int → Int} (hC : CVd D) (h13 : 1 ≤ N 13) (h : RVd (D 28 14) N) : sStep (D 37) (D 39) N 13 = N 13 ∧ sAt (sStep (D 37) (D 39) N) 0 = sAt N 0 ∧ sStep (D 37) (D 39) N (sAt N 0) = N (sAt N 0) ∧ sStep (D 37) (D 39) N (sAt N 0 + 1) = N (sAt N 0 + 1) + 1 := by
  have ha := sAt_r h (Int.le_refl 0) (by omega)
  have e1 : sStep (D 37) (D 39) N 13 = N 13 := by
    unfold sStep
    rw [sSv_n hC ha.2.1 _ _ _ _ _ (Int.le_refl 0) (by omega), ui_n (by omega)]
  refine ⟨e1, by unfold sAt; rw [e1], ?_, ?_⟩
  · unfold sStep
    rw [sSv_n hC ha.2.1 _ _ _ _ _ (Int.le_refl 0) (by omega), ui_n (by omega)]
  · unfold sStep
    rw [sSv_n hC ha.2.1 _ _ _ _ _ (Int.le_refl 0) (by omega), ui_s]
theorem RVd.back {N : Int → Int} (hC : CVd D) (h13 : 1 ≤ N 13) (h : RVd (D 28 14) N) : RVd (D 28 14) (sBack (D 34) N) := by
  have ha := sAt_r h (Int.le_refl 0) (by omega)
  have h0 := hC.1
  obtain ⟨h1, h3, h4, h5, h6⟩ := h
  unfold sBack
  refine ⟨?_, fun l x y => ?_, fun k x y => ?_, ?_, fun k x y => ?_⟩
  · rw [ui_s]; omega
  · rw [ui_s] at y
    rw [ui_n (by omega), cpf_n (by omega), ui_n (by omega), cpf_n (by omega)]
    exact h3 l x (by omega)
  · rw [ui_n (by omega), cpf_n (by omega)]; exact h4 k x y
  · rw [ui_n (by omega), cpf_n (by omega)]; exact h5
  · rw [ui_ap]
    have h7 := h6 k x y
    split
    · omega
    · by_cases c : 9 ≤ k ∧ k < 13
      · rw [cpf_y c]
        unfold sReg
        split
        · exact h7
        · have := hC.2.2.2.1 (40 * N (sAt N 0) + 4 * N (sAt N 0 + 1) + (k - 9)) (by omega) (by omega)
          unfold sCell at *
          exact h6 _ (by omega) (by omega)
      · rw [cpf_n c]; exact h7
theorem sFin_r {nf ty bef : Int} {pd : Int → Int} (hnf : nf ≤ 3) (hb : bef ≤ 3) : ∀ (k : Nat) (p : Int) (N : Int → Int), 0 ≤ p → RVd nf N → 1 ≤ N 13 → N 78 + k ≤ 24 → RVd nf (sFin pd ty bef k p N) ∧ (∀ i, i < 78 → sFin pd ty bef k p N i = N i) ∧ N 78 ≤ sFin pd ty bef k p N 78 ∧ sFin pd ty bef k p N 78 ≤ N 78 + k := by
  intro k
  induction k with
  | zero => intro p N _ h _ _; exact ⟨h, fun _ _ => rfl, Int.le_refl _, by show N 78 ≤ N 78 + (0 : Nat); omega⟩
  | succ k ih =>
    intro p N hp h h13 h78
    have ha := sAt_r h (Int.le_refl 0) (by omega)
    have h4 := h.2.2.2.1
    unfold sFin
    split
    · rename_i hlt
      split
      · have := ih (p + 1) (ui (ui N (79 + N 78) (10 * N (sAt N 0) + p)) 78 (N 78 + 1)) (by omega) (h.fin (by omega) (by omega)) (by rw [ui_n (by omega), ui_n (by omega)]; exact h13) (by rw [ui_s]; omega)
        rw [ui_s] at this
        refine ⟨this.1, fun i hi => ?_, by omega, by omega⟩
        rw [this.2.1 i hi, ui_n (by omega), ui_n (by omega)]
      · have := ih (p + 1) N (by omega) h h13 (by omega)
        exact ⟨this.1, this.2.1, by omega, by omega⟩
    · exact ⟨h, fun _ _ => rfl, Int.le_refl _, by omega⟩
theorem c137_8 {by_ a : Int} (hC : CVd D) (hby : by_ ≤ 9) : ∀ (k : Nat) (n : Int) (N : Int → Int), n + k = by_ → 0 ≤ n → RVd (D 28 14) N → 1 ≤ N 13 → a = sAt N 0 → N (a + 1) + k ≤ 9 →
    Q 0 t (upr D 42 (sGo (D 37) (D 39) k N)) → wp S 137 8 [some (qs 28), some (qi by_), some (qi a), some (qi n)] [] t (upr D 42 N) Q := by
  intro k
  induction k with
  | zero =>
    intro n N hk hn hV h13 hae h9 hQ
    refine b137_8 (chk_i (by omega) (chk_i (by omega) (ite_i (fun h => absurd h (by omega)) fun h => hQ)))
  | succ k ih =>
    intro n N hk hn hV h13 hae h9 hQ
    have ha := sAt_r hV (Int.le_refl 0) (by omega)
    have hs := sStep_13 hC h13 hV
    subst hae
    refine b137_8 (chk_i (by omega) (chk_i (by omega) (ite_i (fun h => chk_i (by omega) (chk_i (by omega) ?_)) fun h => absurd h (by omega))))
    simp only [up_eq, upr_u, upr_s]
    have e1 : ui N (sAt N 0 + 1) (N (sAt N 0 + 1) + 1) (sAt N 0) = N (sAt N 0) := ui_n (by omega)
    refine c135 hC (by rw [e1]; exact ha.2.1) (by omega) (by rw [ui_s]; omega) ?_
    rw [e1]
    refine ih (n + 1) _ (by omega) (by omega) (RVd.step hC h13 (by omega) hV) ?_ ?_ ?_ hQ
    · show 1 ≤ sStep (D 37) (D 39) N 13
      rw [hs.1]; exact h13
    · exact hs.2.1.symm
    · show sStep (D 37) (D 39) N (sAt N 0 + 1) + k ≤ 9
      rw [hs.2.2.2]; omega
theorem c137 {by_ : Int} (hC : CVd D) (hby : 0 ≤ by_ ∧ by_ ≤ 9) (hV : RVd (D 28 14) (D 42)) (h13 : 1 ≤ D 42 13) (h9 : D 42 (sAt (D 42) 0 + 1) + by_ ≤ 9) (k : Q 0 t (upr D 42 (sGo (D 37) (D 39) by_.toNat (D 42)))) :
    wp S 137 0 [some (qs 28), some (qi by_), none, none] [] t D Q := by
  refine b137_0 (c134 ?_)
  have := c137_8 (S := S) (t := t) (Q := Q) (a := sAt (D 42) 0) hC hby.2 by_.toNat 0 (D 42) (by omega) (Int.le_refl _) hV h13 rfl (by omega) k
  rwa [upr_id] at this
theorem sGo_r (hC : CVd D) : ∀ (k : Nat) (N : Int → Int), RVd (D 28 14) N → 1 ≤ N 13 → N (sAt N 0 + 1) + k ≤ 9 → RVd (D 28 14) (sGo (D 37) (D 39) k N) ∧ sGo (D 37) (D 39) k N 13 = N 13 ∧ sGo (D 37) (D 39) k N (sAt N 0 + 1) = N (sAt N 0 + 1) + k := by
  intro k
  induction k with
  | zero => intro N h _ _; exact ⟨h, rfl, by show N _ = N _ + ((0 : Nat) : Int); omega⟩
  | succ k ih =>
    intro N hV h13 h9
    have hs := sStep_13 hC h13 hV
    have := ih (sStep (D 37) (D 39) N) (RVd.step hC h13 (by omega) hV) (by rw [hs.1]; exact h13) (by rw [hs.2.1, hs.2.2.2]; omega)
    refine ⟨this.1, this.2.1.trans hs.1, ?_⟩
    have h3 := this.2.2
    rw [hs.2.1, hs.2.2.2] at h3
    show sGo (D 37) (D 39) k (sStep (D 37) (D 39) N) _ = _
    rw [h3]; omega
theorem c147 {ty w : Int} (ht : 0 ≤ ty ∧ ty ≤ 4) (hw : 0 ≤ w ∧ w ≤ 2) (hC : CVd D) (hV : RVd (D 28 14) (D 42))
    (k : Q (if (sCat (D 38) (D 40) (D 42) ty).1 = -1 then -1 else if w = 0 then (sCat (D 38) (D 40) (D 42) ty).1 else if w = 1 then (sCat (D 38) (D 40) (D 42) ty).2.1 else (sCat (D 38) (D 40) (D 42) ty).2.2) t (upr D 28 (s28 (D 28) (sCat (D 38) (D 40) (D 42) ty).1 (sCat (D 38) (D 40) (D 42) ty).2.1 (sCat (D 38) (D 40) (D 42) ty).2.2))) :
    wp S 147 0 [some (qs 28), some (qi ty), some (qi w)] [] t D Q := by
  have hr := sCat_r (D 38) (D 40) (D 42) ty
  have h13 := hV.1
  refine b147_0 (c146 ht hC hV ?_)
  simp only [upr_s]
  show chk (qR (sCat (D 38) (D 40) (D 42) ty).1) (if (sCat (D 38) (D 40) (D 42) ty).1 = -1 then _ else chk (qR w) (if w = 0 then Q (sCat (D 38) (D 40) (D 42) ty).1 t _ else chk (qR w) (if w = 1 then Q (sCat (D 38) (D 40) (D 42) ty).2.1 t _ else Q (sCat (D 38) (D 40) (D 42) ty).2.2 t _)))
  refine chk_i (by omega) (ite_i (fun h => ?_) fun h => chk_i (by omega) (ite_i (fun h2 => ?_) fun h2 => chk_i (by omega) (ite_i (fun h3 => ?_) fun h3 => ?_)))
  · rwa [if_pos h] at k
  · rwa [if_neg h, if_pos h2] at k
  · rwa [if_neg h, if_neg h2, if_pos h3] at k
  · rwa [if_neg h, if_neg h2, if_neg h3] at k
end RD
