/-! ## the reference's methods: who catches -/
def s28 (R : Int → Int) (c p f : Int) : Int → Int := fun i => if i = 28 then c else if i = 29 then p else if i = 30 then f else R i
theorem s28_a (R : Int → Int) (c p f x : Int) : ui (s28 R c p f) 28 x = s28 R x p f := by
  funext j; unfold ui s28; (repeat' split) <;> first | rfl | omega
theorem s28_b (R : Int → Int) (c p f x : Int) : ui (s28 R c p f) 29 x = s28 R c x f := by
  funext j; unfold ui s28; (repeat' split) <;> first | rfl | omega
theorem s28_c (R : Int → Int) (c p f x : Int) : ui (s28 R c p f) 30 x = s28 R c p x := by
  funext j; unfold ui s28; (repeat' split) <;> first | rfl | omega
theorem s28_0 (R : Int → Int) (c p f : Int) : ui (ui (ui R 28 c) 29 p) 30 f = s28 R c p f := by
  funext j; unfold ui s28; (repeat' split) <;> first | rfl | omega
theorem s28_u (R : Int → Int) (c p f c' p' f' : Int) : s28 (s28 R c p f) c' p' f' = s28 R c' p' f' := by
  funext j; unfold s28; (repeat' split) <;> rfl
section RB
variable {S : (Nat → Int32) × Nat} {t : qT} {D : qD} {Q : Int → qT → qD → Prop}
theorem sAt_r {nf : Int} {N : Int → Int} (h : RVd nf N) {n : Int} (h0 : 0 ≤ n) (h1 : n < N 13) : (14 ≤ sAt N n ∧ sAt N n + 7 < 78) ∧ (0 ≤ N (sAt N n) ∧ N (sAt N n) < nf) ∧ 0 ≤ N (sAt N n + 1) ∧ N (sAt N n + 1) ≤ 9 := by
  have h2 := h.1
  have h3 := h.2.1 (N 13 - 1 - n) (by omega) (by omega)
  unfold sAt
  refine ⟨by omega, ⟨h3.1, h3.2.1⟩, h3.2.2⟩
theorem c146_out {ty n a p : Int} {o5 : Option qV} (hv : (0 ≤ a ∧ a < 110) ∧ (0 ≤ D 42 a ∧ D 42 a < 3) ∧ qR p ∧ qR (D 38 (D 42 a)) ∧ qR (D 28 28)) (hc : ¬ D 28 28 = -1) (k : wp S 146 17 [some (qs 28), some (qi ty), some (qi (n + 1)), some (qi a), some (qi p), o5] [] t D Q) :
    wp S 146 42 [some (qs 28), some (qi ty), some (qi n), some (qi a), some (qi p), o5] [] t D Q :=
  b146_42 (chk_i hv.1 (chk_i hv.2.1 (chk_i hv.2.2.1 (chk_i hv.2.2.2.1 (ite_i (fun _ => chk_i hv.2.2.2.2 (ite_i (fun h => absurd h hc) fun _ => k)) fun _ => k)))))
theorem c146_in {ty n : Int} {R : Int → Int} (ht : 0 ≤ ty ∧ ty ≤ 4) (hn : 0 ≤ n ∧ n < D 42 13) (hR : R 14 = D 28 14) (hC : CVd D) (hV : RVd (D 28 14) (D 42)) :
    ∀ (k : Nat) (p fin : Int) (o5 : Option qV), p + k = 3 → 0 ≤ p →
      (∀ o4 o5 : Option qV, wp S 146 17 [some (qs 28), some (qi ty), some (qi (n + 1)), some (qi (sAt (D 42) n)), o4, o5] [] t
        (upr D 28 (if (sLp (D 38) (D 40) (D 42) n ty k p fin).1 = -1 then s28 R (-1) (-1) (sLp (D 38) (D 40) (D 42) n ty k p fin).2 else s28 R n (sLp (D 38) (D 40) (D 42) n ty k p fin).1 (sLp (D 38) (D 40) (D 42) n ty k p fin).2)) Q) →
      wp S 146 42 [some (qs 28), some (qi ty), some (qi n), some (qi (sAt (D 42) n)), some (qi p), o5] [] t (upr D 28 (s28 R (-1) (-1) fin)) Q := by
  have ha := sAt_r hV hn.1 hn.2
  have h1 := hC.1
  have h2 := hC.2.1 (D 42 (sAt (D 42) n)) ha.2.1.1 ha.2.1.2
  have hC' : ∀ x, CVd (upr D 28 (s28 R (-1) (-1) x)) := fun x => by
    have : (upr D 28 (s28 R (-1) (-1) x)) 28 14 = D 28 14 := hR
    unfold CVd; rw [this]; exact hC
  intro k
  induction k with
  | zero =>
    intro p fin o5 hk hp hQ
    have e : sLp (D 38) (D 40) (D 42) n ty 0 p fin = (-1, fin) := rfl
    rw [e] at hQ
    refine b146_42 (chk_i ?_ (chk_i ?_ (chk_i (by omega) (chk_i ?_ (ite_i (fun h => ?_) fun _ => ?_)))))
    · show 0 ≤ sAt (D 42) n ∧ _; omega
    · show 0 ≤ D 42 (sAt (D 42) n) ∧ D 42 (sAt (D 42) n) < 3; omega
    · show qR (D 38 (D 42 (sAt (D 42) n))); omega
    · have h : p < D 38 (D 42 (sAt (D 42) n)) := h
      exact absurd h (by omega)
    · exact hQ _ _
  | succ k ih =>
    intro p fin o5 hk hp hQ
    refine b146_42 (chk_i ?_ (chk_i ?_ (chk_i (by omega) (chk_i ?_ (ite_i (fun h => ?_) fun h => ?_)))))
    · show 0 ≤ sAt (D 42) n ∧ _; omega
    · show 0 ≤ D 42 (sAt (D 42) n) ∧ D 42 (sAt (D 42) n) < 3; omega
    · show qR (D 38 (D 42 (sAt (D 42) n))); omega
    · have h : p < D 38 (D 42 (sAt (D 42) n)) := h
      refine chk_i (show qR (-1) by omega) (ite_i (fun _ => ?_) fun h => absurd rfl h)
      refine chk_i ?_ (chk_i ?_ (c145 (hC' fin) ?_ ?_ ?_ (by omega) ?_ ?_))
      · show 0 ≤ sAt (D 42) n ∧ _; omega
      · show 0 ≤ sAt (D 42) n + 1 ∧ _; omega
      · show 0 ≤ D 42 (sAt (D 42) n) ∧ D 42 (sAt (D 42) n) < R 14
        rw [hR]; exact ha.2.1
      · exact ⟨hp, h⟩
      · show qR (D 42 (sAt (D 42) n + 1)); omega
      · exact hV.2.2.1
      · simp only [upr_b, Nat.reduceBEq]
        have hr := sDA_r (D 40) (D 42) (D 42 (sAt (D 42) n)) p (D 42 (sAt (D 42) n + 1)) ty
        have e : sLp (D 38) (D 40) (D 42) n ty (k + 1) p fin = if p < D 38 (D 42 (sAt (D 42) n)) then
      (if sDA (D 40) (D 42) (D 42 (sAt (D 42) n)) p (D 42 (sAt (D 42) n + 1)) ty = 1 then (p, fin)
       else if sDA (D 40) (D 42) (D 42 (sAt (D 42) n)) p (D 42 (sAt (D 42) n + 1)) ty = 2 then sLp (D 38) (D 40) (D 42) n ty k (p + 1) (fin + 1)
       else sLp (D 38) (D 40) (D 42) n ty k (p + 1) fin)
    else (-1, fin) := rfl
        rw [if_pos h] at e
        refine chk_i (by omega) (ite_i (fun h2 => ?_) fun h2 => ?_)
        · refine chk_i (by omega) (ite_i (fun h1 => absurd h1 (by omega)) fun h1 => ?_)
          rw [if_neg h1, if_pos h2] at e
          rw [e] at hQ
          have := ih (p + 1) (fin + 1) (some (qi (sDA (D 40) (D 42) (D 42 (sAt (D 42) n)) p (D 42 (sAt (D 42) n + 1)) ty))) (by omega) (by omega) hQ
          rw [up_eq, upr_u, upr_s, s28_c]
          exact this
        · refine chk_i (by omega) (ite_i (fun h1 => ?_) fun h1 => ?_)
          · rw [if_pos h1] at e
            rw [e] at hQ
            rw [if_neg (by omega)] at hQ
            rw [up_eq, up_eq, up_eq, upr_u, upr_u, upr_u, upr_s, upr_s, upr_s, s28_c, s28_a, s28_b]
            rw [show (s28 R (-1) (-1) fin 30 + 0) = fin from Int.add_zero _]
            refine c146_out ?_ (show ¬ n = -1 by omega) (hQ _ _)
            refine ⟨?_, ?_, by omega, ?_, ?_⟩
            · show 0 ≤ sAt (D 42) n ∧ _; omega
            · show 0 ≤ D 42 (sAt (D 42) n) ∧ D 42 (sAt (D 42) n) < 3; omega
            · show qR (D 38 (D 42 (sAt (D 42) n))); omega
            · have := hV.1
              show qR n; omega
          · rw [if_neg h1, if_neg h2] at e
            rw [e] at hQ
            have := ih (p + 1) fin (some (qi (sDA (D 40) (D 42) (D 42 (sAt (D 42) n)) p (D 42 (sAt (D 42) n + 1)) ty))) (by omega) (by omega) hQ
            rw [up_eq, upr_u, upr_s, s28_c, show (s28 R (-1) (-1) fin 30 + 0) = fin from Int.add_zero _]
            exact this
    · have h : ¬ p < D 38 (D 42 (sAt (D 42) n)) := h
      have e : sLp (D 38) (D 40) (D 42) n ty (k + 1) p fin = (-1, fin) := if_neg h
      rw [e] at hQ
      exact hQ _ _
theorem c146_17 {ty : Int} {R : Int → Int} (ht : 0 ≤ ty ∧ ty ≤ 4) (hR : R 14 = D 28 14) (hC : CVd D) (hV : RVd (D 28 14) (D 42)) :
    ∀ (k : Nat) (n fin : Int) (o3 o4 o5 : Option qV), n + k = 8 → 0 ≤ n →
      Q 0 t (upr D 28 (s28 R (sLc (D 38) (D 40) (D 42) ty k n fin).1 (sLc (D 38) (D 40) (D 42) ty k n fin).2.1 (sLc (D 38) (D 40) (D 42) ty k n fin).2.2)) →
      wp S 146 17 [some (qs 28), some (qi ty), some (qi n), o3, o4, o5] [] t (upr D 28 (s28 R (-1) (-1) fin)) Q := by
  have h1 := hV.1
  intro k
  induction k with
  | zero =>
    intro n fin o3 o4 o5 hk hn hQ
    refine b146_17 (c133 (chk_i (by omega) (chk_i ?_ (ite_i (fun h => ?_) fun _ => hQ))))
    · show qR (D 42 13); omega
    · have h : n < D 42 13 := h
      exact absurd h (by omega)
  | succ k ih =>
    intro n fin o3 o4 o5 hk hn hQ
    refine b146_17 (c133 (chk_i (by omega) (chk_i ?_ (ite_i (fun h => ?_) fun h => ?_))))
    · show qR (D 42 13); omega
    · have h : n < D 42 13 := h
      have e : sLc (D 38) (D 40) (D 42) ty (k + 1) n fin = if n < D 42 13 then
      (if (sLp (D 38) (D 40) (D 42) n ty 3 0 fin).1 = -1 then sLc (D 38) (D 40) (D 42) ty k (n + 1) (sLp (D 38) (D 40) (D 42) n ty 3 0 fin).2
       else (n, sLp (D 38) (D 40) (D 42) n ty 3 0 fin))
    else (-1, (-1, fin)) := rfl
      rw [if_pos h] at e
      refine chk_i (show qR (-1) by omega) (ite_i (fun _ => c134 ?_) fun h => absurd rfl h)
      refine c146_in ht ⟨hn, h⟩ hR hC hV 3 0 fin o5 rfl (Int.le_refl _) fun o4 o5 => ?_
      by_cases c : (sLp (D 38) (D 40) (D 42) n ty 3 0 fin).1 = -1
      · rw [if_pos c]
        rw [if_pos c] at e
        refine ih (n + 1) _ _ _ _ (by omega) (by omega) ?_
        rw [e] at hQ
        exact hQ
      · rw [if_neg c]
        rw [if_neg c] at e
        rw [e] at hQ
        refine b146_17 (c133 (chk_i (by omega) (chk_i ?_ (ite_i (fun h => chk_i ?_ (ite_i (fun h2 => ?_) fun _ => hQ)) fun _ => hQ))))
        · show qR (D 42 13); omega
        · show qR n; omega
        · have h2 : n = -1 := h2
          exact absurd h2 (by omega)
    · have h : ¬ n < D 42 13 := h
      have e : sLc (D 38) (D 40) (D 42) ty (k + 1) n fin = (-1, (-1, fin)) := if_neg h
      rw [e] at hQ
      exact hQ
theorem c146 {ty : Int} (ht : 0 ≤ ty ∧ ty ≤ 4) (hC : CVd D) (hV : RVd (D 28 14) (D 42))
    (k : Q 0 t (upr D 28 (s28 (D 28) (sCat (D 38) (D 40) (D 42) ty).1 (sCat (D 38) (D 40) (D 42) ty).2.1 (sCat (D 38) (D 40) (D 42) ty).2.2))) :
    wp S 146 0 [some (qs 28), some (qi ty), none, none, none, none] [] t D Q := by
  refine b146_0 ?_
  rw [up_eq, up_eq, up_eq, upr_u, upr_u, upr_s, upr_s, s28_0]
  exact c146_17 ht rfl hC hV 8 0 0 _ _ _ rfl (Int.le_refl _) k
theorem sLp_r (pm pd N : Int → Int) (n ty : Int) : ∀ (k : Nat) (p fin : Int), p + k ≤ 3 → 0 ≤ p → 0 ≤ fin → ((sLp pm pd N n ty k p fin).1 = -1 ∨ (p ≤ (sLp pm pd N n ty k p fin).1 ∧ (sLp pm pd N n ty k p fin).1 < 3 ∧ (sLp pm pd N n ty k p fin).1 < pm (N (sAt N n)))) ∧ fin ≤ (sLp pm pd N n ty k p fin).2 ∧ (sLp pm pd N n ty k p fin).2 ≤ fin + k := by
  intro k
  induction k with
  | zero => intro p fin _ _ _; exact ⟨.inl rfl, Int.le_refl _, by show fin ≤ fin + (0 : Nat); omega⟩
  | succ k ih =>
    intro p fin h1 h2 h3
    unfold sLp
    split
    · rename_i h
      split
      · exact ⟨.inr ⟨Int.le_refl _, by show p < 3; omega, h⟩, Int.le_refl _, by show fin ≤ fin + _; omega⟩
      · split
        · have := ih (p + 1) (fin + 1) (by omega) (by omega) (by omega)
          omega
        · have := ih (p + 1) fin (by omega) (by omega) (by omega)
          omega
    · exact ⟨.inl rfl, Int.le_refl _, by show fin ≤ fin + _; omega⟩
theorem sLc_r (pm pd N : Int → Int) (ty : Int) : ∀ (k : Nat) (n fin : Int), n + k ≤ 8 → 0 ≤ n → 0 ≤ fin → (((sLc pm pd N ty k n fin).1 = -1 ∧ (sLc pm pd N ty k n fin).2.1 = -1) ∨ (n ≤ (sLc pm pd N ty k n fin).1 ∧ (sLc pm pd N ty k n fin).1 < N 13 ∧ 0 ≤ (sLc pm pd N ty k n fin).2.1 ∧ (sLc pm pd N ty k n fin).2.1 < 3 ∧ (sLc pm pd N ty k n fin).2.1 < pm (N (sAt N (sLc pm pd N ty k n fin).1)))) ∧ fin ≤ (sLc pm pd N ty k n fin).2.2 ∧ (sLc pm pd N ty k n fin).2.2 ≤ fin + 3 * k := by
  intro k
  induction k with
  | zero => intro n fin _ _ _; exact ⟨.inl ⟨rfl, rfl⟩, Int.le_refl _, by show fin ≤ fin + 3 * (0 : Nat); omega⟩
  | succ k ih =>
    intro n fin h1 h2 h3
    unfold sLc
    have hp := sLp_r pm pd N n ty 3 0 fin (by omega) (by omega) h3
    split
    · rename_i h
      split
      · have := ih (n + 1) _ (by omega) (by omega) (Int.le_trans h3 hp.2.1)
        omega
      · rename_i h5
        refine ⟨.inr ⟨Int.le_refl _, h, ?_, ?_, ?_⟩, ?_, ?_⟩ <;> dsimp only <;> omega
    · exact ⟨.inl ⟨rfl, rfl⟩, Int.le_refl _, by show fin ≤ fin + _; omega⟩
theorem sCat_r (pm pd N : Int → Int) (ty : Int) : (((sCat pm pd N ty).1 = -1 ∧ (sCat pm pd N ty).2.1 = -1) ∨ (0 ≤ (sCat pm pd N ty).1 ∧ (sCat pm pd N ty).1 < N 13 ∧ 0 ≤ (sCat pm pd N ty).2.1 ∧ (sCat pm pd N ty).2.1 < 3 ∧ (sCat pm pd N ty).2.1 < pm (N (sAt N (sCat pm pd N ty).1)))) ∧ 0 ≤ (sCat pm pd N ty).2.2 ∧ (sCat pm pd N ty).2.2 ≤ 24 := by
  have := sLc_r pm pd N ty 8 0 0 (by omega) (by omega) (by omega)
  unfold sCat
  omega
end RB
