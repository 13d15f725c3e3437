/-! ## the reference's methods: what is done to the row -/
section RC
variable {S : (Nat → Int32) × Nat} {t : qT} {D : qD} {Q : Int → qT → qD → Prop}
theorem sAt_ui {N : Int → Int} {i x n : Int} (h : i ≠ 13) : sAt (ui N i x) n = sAt N n := by unfold sAt; rw [ui_n (fun q => h q.symm)]
theorem sAt_cpf {N g : Int → Int} {lo hi n : Int} (h : ¬ (lo ≤ 13 ∧ 13 < hi)) : sAt (cpf N g lo hi) n = sAt N n := by unfold sAt; rw [cpf_n h]
theorem RVd.fin {nf x : Int} {N : Int → Int} (h : RVd nf N) (h2 : N 78 < 24) (hx : qR x) : RVd nf (ui (ui N (79 + N 78) x) 78 (N 78 + 1)) := by
  obtain ⟨h1, h3, h4, h5, h6⟩ := h
  refine ⟨?_, fun l a b => ?_, fun k a b => ?_, ?_, fun k a b => ?_⟩
  · rw [ui_n (by decide), ui_n (by omega)]; exact h1
  · rw [ui_n (by decide), ui_n (by omega)] at b
    rw [ui_n (by omega), ui_n (by omega), ui_n (by omega), ui_n (by omega)]; exact h3 l a b
  · rw [ui_n (by omega), ui_n (by omega)]; exact h4 k a b
  · rw [ui_s]; omega
  · unfold ui
    split
    · omega
    · split
      · exact hx
      · exact h6 k a b
theorem c149_9 {ty bef : Int} (hC : CVd D) (ht : 0 ≤ ty ∧ ty ≤ 4) (hb0 : 0 ≤ bef) : ∀ (k : Nat) (p a : Int) (N : Int → Int), p + k = 3 → 0 ≤ p → a = sAt N 0 → RVd (D 28 14) N → 1 ≤ N 13 → N 78 + k ≤ 24 → bef ≤ D 38 (N a) →
    Q 0 t (upr D 42 (sFin (D 40) ty bef k p N)) → wp S 149 9 [some (qs 28), some (qi ty), some (qi bef), some (qi a), some (qi p)] [] t (upr D 42 N) Q := by
  intro k
  induction k with
  | zero =>
    intro p a N hk hp hae hV h13 h78 hb hQ
    have ha := sAt_r hV (Int.le_refl 0) (by omega)
    rw [← hae] at ha
    have h2 := hC.2.1 (N a) ha.2.1.1 ha.2.1.2
    refine b149_9 (chk_i (by omega) (chk_i (by omega) (ite_i (fun h => absurd h (by omega)) fun h => hQ)))
  | succ k ih =>
    intro p a N hk hp hae hV h13 h78 hb hQ
    have ha := sAt_r hV (Int.le_refl 0) (by omega)
    rw [← hae] at ha
    have h2 := hC.2.1 (N a) ha.2.1.1 ha.2.1.2
    have h4 := hV.2.2.2.1
    have hr := sDA_r (D 40) N (N a) p (N (a + 1)) ty
    unfold sFin at hQ
    rw [← hae] at hQ
    refine b149_9 (chk_i (by omega) (chk_i (by omega) (ite_i (fun h => ?_) fun h => ?_)))
    · simp only [upr_s]
      rw [if_pos h] at hQ
      refine chk_i (by omega) (chk_i (by omega) (c145 hC ha.2.1 ⟨hp, Int.lt_of_lt_of_le h hb⟩ (by show qR (N (a + 1)); omega) (by omega) hV.2.2.1 ?_))
      simp only [up_eq, upr_u, upr_s, upr_b, Nat.reduceBEq]
      refine chk_i (by omega) (ite_i (fun h2 => ?_) fun h2 => ?_)
      · rw [if_pos h2] at hQ
        have e : ui N (79 + N 78) (10 * N a + p) 78 = N 78 := ui_n (by omega)
        rw [e]
        have hV' := hV.fin (x := 10 * N a + p) (by omega) (by have := hC.1; omega)
        refine chk_i (by omega) (chk_i (by omega) (ih (p + 1) a _ (by omega) (by omega) ?_ hV' ?_ ?_ ?_ hQ))
        · rw [sAt_ui (by decide), sAt_ui (by omega)]; exact hae
        · rw [ui_n (by decide), ui_n (by omega)]; exact h13
        · rw [ui_s]; omega
        · rw [ui_n (by omega), ui_n (by omega)]; exact hb
      · rw [if_neg h2] at hQ
        exact ih (p + 1) a N (by omega) (by omega) hae hV h13 (by omega) hb hQ
    · rw [if_neg h] at hQ
      exact hQ
theorem c149 {ty bef : Int} (hC : CVd D) (ht : 0 ≤ ty ∧ ty ≤ 4) (hb0 : 0 ≤ bef) (hV : RVd (D 28 14) (D 42)) (h13 : 1 ≤ D 42 13) (h78 : D 42 78 ≤ 21) (hb : bef ≤ D 38 (D 42 (sAt (D 42) 0)))
    (k : Q 0 t (upr D 42 (sFin (D 40) ty bef 3 0 (D 42)))) : wp S 149 0 [some (qs 28), some (qi ty), some (qi bef), none, none] [] t D Q := by
  refine b149_0 (c134 ?_)
  have := c149_9 (S := S) (t := t) (Q := Q) hC ht hb0 3 0 (sAt (D 42) 0) (D 42) rfl (Int.le_refl _) rfl hV h13 (by omega) hb k
  rwa [upr_id] at this
theorem c138_8 {N : Int → Int} (hC : CVd D) (hV : RVd (D 28 14) N) (h13 : 1 ≤ N 13) : ∀ (k : Nat) (j : Int) (o3 : Option qV), j + k = 4 → 0 ≤ j →
    Q 0 t (upr D 42 (sBack (D 34) N)) → wp S 138 8 [some (qs 28), some (qi (sAt N 0)), some (qi j), o3] [] t (upr D 42 (cpf N (fun i => sReg (D 34) N 0 (i - 9) (N i)) 9 (9 + j))) Q := by
  have ha := sAt_r hV (Int.le_refl 0) (by omega)
  have h1 := hC.1
  intro k
  induction k with
  | zero =>
    intro j o3 hk hj hQ
    obtain rfl : j = 4 := by omega
    refine b138_8 (chk_i (by omega) (ite_i (fun h => absurd h (by omega)) fun h => ?_))
    simp only [up_eq, upr_u, upr_s]
    rw [cpf_n (i := 13) (by omega)]
    exact hQ
  | succ k ih =>
    intro j o3 hk hj hQ
    refine b138_8 (chk_i (by omega) (ite_i (fun h => ?_) fun h => absurd h (by omega)))
    simp only [up_eq, upr_u, upr_s, upr_b, Nat.reduceBEq]
    rw [cpf_n (i := sAt N 0) (by omega), cpf_n (i := sAt N 0 + 1) (by omega), cpf_n (i := 9 + j) (by omega)]
    have hc := hC.2.2.2.1 (40 * N (sAt N 0) + 4 * N (sAt N 0 + 1) + j) (by omega) (by omega)
    have key : ∀ v, v = sReg (D 34) N 0 (9 + j - 9) (N (9 + j)) → ∀ o, wp S 138 8 [some (qs 28), some (qi (sAt N 0)), some (qi (j + 1)), o] [] t (upr D 42 (ui (cpf N (fun i => sReg (D 34) N 0 (i - 9) (N i)) 9 (9 + j)) (9 + j) v)) Q := fun v hv o => by
      have := ih (j + 1) o (by omega) (by omega) hQ
      rw [hv, cpf_s (g := fun i => sReg (D 34) N 0 (i - 9) (N i)) (by omega), show 9 + j + 1 = 9 + (j + 1) by omega]
      exact this
    have e9 : 9 + j - 9 = j := by omega
    refine chk_i (by omega) (chk_i (by omega) (chk_i (by omega) (chk_i (by omega) (ite_i (fun h5 => ?_) fun h5 => ?_))))
    · refine chk_i (by omega) (chk_i (by omega) (key _ ?_ _))
      unfold sReg sCell
      rw [e9, if_pos h5]
    · refine chk_i (by omega) (chk_i (by omega) (key _ ?_ _))
      unfold sReg sCell
      rw [e9, if_neg h5, cpf_n (by omega)]
theorem c138 (hC : CVd D) (hV : RVd (D 28 14) (D 42)) (h13 : 1 ≤ D 42 13) (k : Q 0 t (upr D 42 (sBack (D 34) (D 42)))) : wp S 138 0 [some (qs 28), none, none, none] [] t D Q := by
  refine b138_0 (c134 ?_)
  have := c138_8 (S := S) (t := t) (Q := Q) hC hV h13 4 0 none rfl (Int.le_refl _) k
  rw [show (9 + 0 : Int) = 9 from rfl, cpf_0, upr_id] at this
  exact this
theorem c135_12 {f a : Int} (hC : CVd D) (hf : 0 ≤ f ∧ f < D 28 14) (ha : 14 ≤ a ∧ a + 7 < 78) : ∀ (k : Nat) (n adr : Int) (N : Int → Int) (o5 : Option qV), n + k = 8 → 0 ≤ n → 0 ≤ adr ∧ adr ≤ 9 * n → qR (N (a + 1)) →
    Q 0 t (upr D 42 (sSv (D 37) (D 39) f a k n adr N)) → wp S 135 12 [some (qs 28), some (qi a), some (qi f), some (qi adr), some (qi n), o5] [] t (upr D 42 N) Q := by
  have h1 := hC.1
  have h2 := hC.2.1 f hf.1 hf.2
  intro k
  induction k with
  | zero =>
    intro n adr N o5 hk hn had hN hQ
    refine b135_12 (chk_i (by omega) (chk_i (by omega) (chk_i ?_ (ite_i (fun h => ?_) fun h => hQ))))
    · show qR (D 37 f); omega
    · have h : n < D 37 f := h
      exact absurd h (by omega)
  | succ k ih =>
    intro n adr N o5 hk hn had hN hQ
    refine b135_12 ?_
    simp only [up_eq, upr_u, upr_s, upr_b, Nat.reduceBEq, Int.add_zero]
    unfold sSv at hQ
    refine chk_i (by omega) (chk_i (by omega) (chk_i (by omega) (ite_i (fun h => ?_) fun h => ?_)))
    · rw [if_pos h] at hQ
      have h3 := hC.2.2.1 f n hf.1 hf.2 hn h
      refine chk_i (by omega) (chk_i (by omega) (ite_i (fun h4 => ?_) fun h4 => ?_))
      · rw [if_pos h4] at hQ
        refine chk_i (by omega) (chk_i (by omega) (chk_i (by omega) (ite_i (fun h5 => absurd h5 (by omega)) fun h5 => ?_)))
        exact ih (n + 1) _ N _ (by omega) (by omega) (by omega) hN hQ
      · rw [if_neg h4] at hQ
        refine chk_i (by omega) (chk_i (by omega) (ite_i (fun h5 => ?_) fun h5 => ?_))
        · refine chk_i (by omega) (chk_i (by omega) (chk_i (by omega) (ite_i (fun h6 => ?_) fun h6 => ?_)))
          · rw [if_pos ⟨h5, h6⟩] at hQ
            refine chk_i (by omega) (chk_i (by omega) (chk_i (by omega) (chk_i (by omega) ?_)))
            refine ih (n + 1) _ _ _ (by omega) (by omega) (by omega) ?_ hQ
            rw [ui_n (by omega)]; exact hN
          · rw [if_neg (fun q => h6 q.2)] at hQ
            exact ih (n + 1) _ N _ (by omega) (by omega) (by omega) hN hQ
        · rw [if_neg (fun q => h5 q.1)] at hQ
          exact ih (n + 1) _ N _ (by omega) (by omega) (by omega) hN hQ
    · rw [if_neg h] at hQ
      exact hQ
theorem c135 {a : Int} {N : Int → Int} (hC : CVd D) (hf : 0 ≤ N a ∧ N a < D 28 14) (ha : 14 ≤ a ∧ a + 7 < 78) (hN : qR (N (a + 1))) (k : Q 0 t (upr D 42 (sSv (D 37) (D 39) (N a) a 8 0 0 N))) :
    wp S 135 0 [some (qs 28), some (qi a), none, none, none, none] [] t (upr D 42 N) Q := by
  refine b135_0 (chk_i (by omega) ?_)
  simp only [upr_s]
  exact c135_12 hC hf ha 8 0 0 N none rfl (Int.le_refl _) (by omega) hN k
theorem c136_19 {f a : Int} {N : Int → Int} (hC : CVd D) (hf : 0 ≤ f ∧ f < D 28 14) (ha : 14 ≤ a ∧ a + 7 < 78) : ∀ (k : Nat) (j : Int), j + k = 8 → 0 ≤ j →
    Q 0 t (upr D 42 (sSv (D 37) (D 39) f a 8 0 0 (ui (sClr N a) a f))) → wp S 136 19 [some (qs 28), some (qi f), some (qi a), some (qi j)] [] t (upr D 42 (cpf N (fun _ => 0) a (a + j))) Q := by
  intro k
  induction k with
  | zero =>
    intro j hk hj hQ
    obtain rfl : j = 8 := by omega
    refine b136_19 (chk_i (by omega) (ite_i (fun h => absurd h (by omega)) fun h => chk_i (by omega) ?_))
    simp only [up_eq, upr_u, upr_s]
    have e1 : ui (cpf N (fun _ => 0) a (a + 8)) a f a = f := ui_s
    refine c135 hC (by rw [e1]; exact hf) ha (by rw [ui_n (by omega), cpf_y (by omega)]; omega) ?_
    rw [e1]
    exact hQ
  | succ k ih =>
    intro j hk hj hQ
    refine b136_19 (chk_i (by omega) (ite_i (fun h => chk_i (by omega) ?_) fun h => absurd h (by omega)))
    simp only [up_eq, upr_u, upr_s]
    rw [cpf_s (g := fun _ => (0 : Int)) (by omega), show a + j + 1 = a + (j + 1) by omega]
    exact ih (j + 1) (by omega) (by omega) hQ
theorem c136 {f : Int} (hC : CVd D) (hf : 0 ≤ f ∧ f < D 28 14) (h13 : 0 ≤ D 42 13 ∧ D 42 13 < 8) (k : Q 0 t (upr D 42 (sCall (D 37) (D 39) (D 42) f))) : wp S 136 0 [some (qs 28), some (qi f), none, none] [] t D Q := by
  refine b136_0 ?_
  simp only [up_eq]
  refine c134 ?_
  have e : sAt (upr D 42 (ui (D 42) 13 (D 42 13 + 1)) 42) 0 = 14 + 8 * D 42 13 := by
    rw [upr_s]; unfold sAt; rw [ui_s]; omega
  rw [e]
  have := c136_19 (S := S) (t := t) (Q := Q) (N := ui (D 42) 13 (D 42 13 + 1)) (a := 14 + 8 * D 42 13) hC hf (by omega) 8 0 rfl (Int.le_refl _) k
  rw [Int.add_zero, cpf_0] at this
  exact this
end RC
