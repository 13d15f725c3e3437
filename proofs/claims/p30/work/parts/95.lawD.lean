/-! ## who catches, and who finishes ahead of it -/
def lkP (pm pd N : Int → Int) (n ty : Int) : Nat → Int → (Int → Int) → (Int → Int)
  | 0, _, K => K
  | k + 1, p, K => if p < pm (N (sAt N n)) then
      (if sDA pd N (N (sAt N n)) p (N (sAt N n + 1)) ty = 1 then K
       else if sDA pd N (N (sAt N n)) p (N (sAt N n + 1)) ty = 2 then lkP pm pd N n ty k (p + 1) (ui (ui K (79 + K 78) (10 * N (sAt N n) + p)) 78 (K 78 + 1))
       else lkP pm pd N n ty k (p + 1) K)
    else K
def lkF (pm pd N : Int → Int) (ty : Int) : Nat → Int → (Int → Int) → (Int → Int)
  | 0, _, K => K
  | k + 1, n, K => if n < N 13 then (if (sLp pm pd N n ty 3 0 (K 78)).1 = -1 then lkF pm pd N ty k (n + 1) (lkP pm pd N n ty 3 0 K) else lkP pm pd N n ty 3 0 K) else K
def GK (ag : Nat) (D : qD) (K : Int → Int) : Prop := D ag 2 = K 78 ∧ ∀ i, 0 ≤ i → i < K 78 → D ag (3 + i) = K (79 + i)
theorem lkP_78 {pm pd N : Int → Int} {n ty : Int} : ∀ (k : Nat) (p : Int) (K : Int → Int), 0 ≤ K 78 → lkP pm pd N n ty k p K 78 = (sLp pm pd N n ty k p (K 78)).2 ∧ K 78 ≤ lkP pm pd N n ty k p K 78 ∧ lkP pm pd N n ty k p K 78 ≤ K 78 + k := by
  intro k
  induction k with
  | zero => intro p K h; exact ⟨rfl, Int.le_refl _, by show K 78 ≤ K 78 + ((0 : Nat) : Int); omega⟩
  | succ k ih =>
    intro p K h
    unfold lkP sLp
    by_cases c : p < pm (N (sAt N n))
    · rw [if_pos c, if_pos c]
      by_cases c1 : sDA pd N (N (sAt N n)) p (N (sAt N n + 1)) ty = 1
      · rw [if_pos c1, if_pos c1]; exact ⟨rfl, Int.le_refl _, by omega⟩
      · rw [if_neg c1, if_neg c1]
        by_cases c2 : sDA pd N (N (sAt N n)) p (N (sAt N n + 1)) ty = 2
        · rw [if_pos c2, if_pos c2]
          have := ih (p + 1) (ui (ui K (79 + K 78) (10 * N (sAt N n) + p)) 78 (K 78 + 1)) (by rw [ui_s]; omega)
          rw [ui_s] at this
          exact ⟨this.1, by omega, by omega⟩
        · rw [if_neg c2, if_neg c2]
          have := ih (p + 1) K h
          exact ⟨this.1, this.2.1, by omega⟩
    · rw [if_neg c, if_neg c]; exact ⟨rfl, Int.le_refl _, by omega⟩
theorem lkF_78 {pm pd N : Int → Int} {ty : Int} : ∀ (k : Nat) (n : Int) (K : Int → Int), 0 ≤ K 78 → lkF pm pd N ty k n K 78 = (sLc pm pd N ty k n (K 78)).2.2 := by
  intro k
  induction k with
  | zero => intro n K h; rfl
  | succ k ih =>
    intro n K h
    have hp := lkP_78 (pm := pm) (pd := pd) (N := N) (n := n) (ty := ty) 3 0 K h
    unfold lkF sLc
    by_cases c : n < N 13
    · rw [if_pos c, if_pos c]
      by_cases c1 : (sLp pm pd N n ty 3 0 (K 78)).1 = -1
      · rw [if_pos c1, if_pos c1, ih (n + 1) _ (by omega), hp.1]
      · rw [if_neg c1, if_neg c1]; exact hp.1
    · rw [if_neg c, if_neg c]
theorem sLp_lo {pm pd N : Int → Int} {n ty : Int} : ∀ (k : Nat) (p fin : Int), (sLp pm pd N n ty k p fin).1 = -1 ∨ (p ≤ (sLp pm pd N n ty k p fin).1 ∧ (sLp pm pd N n ty k p fin).1 < p + k ∧ (sLp pm pd N n ty k p fin).1 < pm (N (sAt N n))) := by
  intro k
  induction k with
  | zero => intro p fin; exact Or.inl rfl
  | succ k ih =>
    intro p fin
    unfold sLp
    by_cases c : p < pm (N (sAt N n))
    · rw [if_pos c]
      by_cases c1 : sDA pd N (N (sAt N n)) p (N (sAt N n + 1)) ty = 1
      · rw [if_pos c1]; exact Or.inr ⟨Int.le_refl _, by show p < p + _; omega, c⟩
      · rw [if_neg c1]
        by_cases c2 : sDA pd N (N (sAt N n)) p (N (sAt N n + 1)) ty = 2
        · rw [if_pos c2]
          rcases ih (p + 1) (fin + 1) with h | h
          · exact Or.inl h
          · exact Or.inr ⟨by omega, by omega, h.2.2⟩
        · rw [if_neg c2]
          rcases ih (p + 1) fin with h | h
          · exact Or.inl h
          · exact Or.inr ⟨by omega, by omega, h.2.2⟩
    · rw [if_neg c]; exact Or.inl rfl
theorem sLc_lo {pm pd N : Int → Int} {ty : Int} : ∀ (k : Nat) (n fin : Int), (sLc pm pd N ty k n fin).1 = -1 ∨ n ≤ (sLc pm pd N ty k n fin).1 := by
  intro k
  induction k with
  | zero => intro n fin; exact Or.inl rfl
  | succ k ih =>
    intro n fin
    unfold sLc
    by_cases c : n < N 13
    · rw [if_pos c]
      by_cases c1 : (sLp pm pd N n ty 3 0 fin).1 = -1
      · rw [if_pos c1]
        rcases ih (n + 1) (sLp pm pd N n ty 3 0 fin).2 with h | h
        · exact Or.inl h
        · exact Or.inr (by omega)
      · rw [if_neg c1]; exact Or.inr (Int.le_refl _)
    · rw [if_neg c]; exact Or.inl rfl
/-- what finishes in the frame that is the latest: the same, looked for or thrown -/
theorem sFin_lk {pm pd N : Int → Int} {n ty : Int} {nf : Int} (hpn : ∀ i, 0 ≤ i → i < 9 → True) : ∀ (k : Nat) (p fin bef : Int) (M K : Int → Int), 0 ≤ p → (bef = if (sLp pm pd N n ty k p fin).1 = -1 then pm (N (sAt N n)) else (sLp pm pd N n ty k p fin).1) → RVd nf M → nf ≤ 3 → 1 ≤ M 13 → M 78 + k ≤ 24 → p + k ≤ 3 → M (sAt M 0) = N (sAt N n) → M (sAt M 0 + 1) = N (sAt N n + 1) → (∀ i, 0 ≤ i → i < 9 → M i = N i) → (∀ i, 78 ≤ i → M i = K i) → ∀ i, 78 ≤ i → sFin pd ty bef k p M i = lkP pm pd N n ty k p K i := by
  intro k
  induction k with
  | zero => intro p fin bef M K hp hb hV hnf h13 h78 hpk e0 e1 e2 e3 i hi; exact e3 i hi
  | succ k ih =>
    intro p fin bef M K hp hb hV hnf h13 h78 hpk e0 e1 e2 e3 i hi
    have ha := sAt_r hV (Int.le_refl 0) (by omega)
    have h4 := hV.2.2.2.1
    have hK : K 78 = M 78 := (e3 78 (by decide)).symm
    have hda : sDA pd M (M (sAt M 0)) p (M (sAt M 0 + 1)) ty = sDA pd N (N (sAt N n)) p (N (sAt N n + 1)) ty := by
      have hk : M (3 * M (sAt M 0) + p) = N (3 * M (sAt M 0) + p) := e2 _ (by omega) (by omega)
      unfold sDA
      rw [hk, e0, e1]
    unfold sFin lkP
    have eL : sLp pm pd N n ty (k + 1) p fin = if p < pm (N (sAt N n)) then
      (if sDA pd N (N (sAt N n)) p (N (sAt N n + 1)) ty = 1 then (p, fin)
       else if sDA pd N (N (sAt N n)) p (N (sAt N n + 1)) ty = 2 then sLp pm pd N n ty k (p + 1) (fin + 1)
       else sLp pm pd N n ty k (p + 1) fin) else (-1, fin) := rfl
    rw [hda]
    by_cases c : p < pm (N (sAt N n))
    · rw [if_pos c] at eL ⊢
      by_cases c1 : sDA pd N (N (sAt N n)) p (N (sAt N n + 1)) ty = 1
      · rw [if_pos c1] at eL ⊢
        rw [eL] at hb
        have hb : bef = if p = -1 then pm (N (sAt N n)) else p := hb
        rw [if_neg (by omega)] at hb
        rw [if_neg (by omega)]
        exact e3 i hi
      · rw [if_neg c1] at eL ⊢
        have hlt : ∀ fin', (bef = if (sLp pm pd N n ty k (p + 1) fin').1 = -1 then pm (N (sAt N n)) else (sLp pm pd N n ty k (p + 1) fin').1) → p < bef := by
          intro fin' h
          rcases sLp_lo (pm := pm) (pd := pd) (N := N) (n := n) (ty := ty) k (p + 1) fin' with h1 | h1
          · rw [if_pos h1] at h; omega
          · rw [if_neg (by omega)] at h; omega
        by_cases c2 : sDA pd N (N (sAt N n)) p (N (sAt N n + 1)) ty = 2
        · rw [if_pos c2] at eL ⊢
          rw [eL] at hb
          rw [if_pos (hlt _ hb), if_pos c2]
          have hm13 : ∀ j, j < 78 → ui (ui M (79 + M 78) (10 * M (sAt M 0) + p)) 78 (M 78 + 1) j = M j := fun j hj => by rw [ui_n (by omega), ui_n (by omega)]
          have es : sAt (ui (ui M (79 + M 78) (10 * M (sAt M 0) + p)) 78 (M 78 + 1)) 0 = sAt M 0 := sAt_d (by rw [hm13 13 (by decide)])
          refine ih (p + 1) _ bef _ _ (by omega) hb (hV.fin (by omega) (by omega)) hnf (by rw [hm13 13 (by decide)]; exact h13) (by rw [ui_s]; omega) (by omega) ?_ ?_ (fun j x y => by rw [hm13 j (by omega)]; exact e2 j x y) (fun j x => ?_) i hi
          · rw [es, hm13 _ (by omega)]; exact e0
          · rw [es, hm13 _ (by omega)]; exact e1
          · rw [hK, e0]
            by_cases cj : j = 78
            · rw [cj, ui_s, ui_s]
            · rw [ui_n cj, ui_n cj]
              by_cases cq : j = 79 + M 78
              · rw [cq, ui_s, ui_s]
              · rw [ui_n cq, ui_n cq]; exact e3 j x
        · rw [if_neg c2] at eL ⊢
          rw [eL] at hb
          rw [if_pos (hlt _ hb), if_neg c2]
          exact ih (p + 1) _ bef M K (by omega) hb hV hnf h13 (by omega) (by omega) e0 e1 e2 e3 i hi
    · rw [if_neg c] at eL ⊢
      rw [eL] at hb
      have hb : bef = if (-1 : Int) = -1 then pm (N (sAt N n)) else -1 := hb
      rw [if_pos rfl] at hb
      rw [if_neg (by omega)]
      exact e3 i hi
theorem sUnw_lk {E : qD} {N : Int → Int} {ty cp fr : Int} (hC : CVd E) (hV : RVd (E 28 14) N) : ∀ (c k : Nat) (n : Int) (M K : Int → Int), 0 ≤ n → (sLc (E 38) (E 40) N ty k n (K 78)) = (n + c, (cp, fr)) → RVd (E 28 14) M → M 13 = N 13 - n → (∀ i, 0 ≤ i → i < 9 → M i = N i) → (∀ i, 14 ≤ i → i < 78 → M i = N i) → (∀ i, 78 ≤ i → M i = K i) → M 78 ≤ 3 * n → ∀ i, 78 ≤ i → sEnd (E 40) ty cp (sUnw (E 34) (E 38) (E 40) ty c M) i = lkF (E 38) (E 40) N ty k n K i := by
  intro c
  induction c with
  | zero =>
    intro k n M K hn hL hM h13 e2 e1 e3 h78 i hi
    have hVn := hV.1
    have hMn := hM.1
    have hKM := e3 78 (by decide)
    have h3 := hC.1
    cases k with
    | zero => exact absurd (congrArg Prod.fst hL) (by show ¬ ((-1 : Int) = n + ((0 : Nat) : Int)); omega)
    | succ k =>
      unfold lkF
      have eL : sLc (E 38) (E 40) N ty (k + 1) n (K 78) = if n < N 13 then (if (sLp (E 38) (E 40) N n ty 3 0 (K 78)).1 = -1 then sLc (E 38) (E 40) N ty k (n + 1) (sLp (E 38) (E 40) N n ty 3 0 (K 78)).2 else (n, sLp (E 38) (E 40) N n ty 3 0 (K 78))) else (-1, (-1, K 78)) := rfl
      rw [eL] at hL
      by_cases c : n < N 13
      · rw [if_pos c] at hL ⊢
        by_cases c1 : (sLp (E 38) (E 40) N n ty 3 0 (K 78)).1 = -1
        · rw [if_pos c1] at hL
          have h := sLc_lo (pm := E 38) (pd := E 40) (N := N) (ty := ty) k (n + 1) (sLp (E 38) (E 40) N n ty 3 0 (K 78)).2
          rw [hL] at h
          have h : n + ((0 : Nat) : Int) = -1 ∨ n + 1 ≤ n + ((0 : Nat) : Int) := h
          omega
        · rw [if_neg c1] at hL ⊢
          have hcp : (sLp (E 38) (E 40) N n ty 3 0 (K 78)).1 = cp := congrArg (fun x => x.2.1) hL
          have es : sAt M 0 = sAt N n := by unfold sAt; omega
          have hat : 14 ≤ sAt N n ∧ sAt N n + 1 < 78 := by unfold sAt; omega
          unfold sEnd
          show ui (sFin (E 40) ty cp 3 0 M) (sAt M 0 + 1) _ i = _
          rw [ui_n (by omega)]
          exact sFin_lk (nf := E 28 14) (fun _ _ _ => trivial) 3 0 (K 78) cp M K (Int.le_refl _) (by rw [if_neg c1]; exact hcp.symm) hM h3.2 (by omega) (by omega) (by omega) (by rw [es]; exact e1 _ (by omega) (by omega)) (by rw [es]; exact e1 _ (by omega) (by omega)) e2 e3 i hi
      · rw [if_neg c] at hL
        exact absurd (congrArg Prod.fst hL) (by show ¬ ((-1 : Int) = n + ((0 : Nat) : Int)); omega)
  | succ c ih =>
    intro k n M K hn hL hM h13 e2 e1 e3 h78 i hi
    have hVn := hV.1
    have hMn := hM.1
    have hKM := e3 78 (by decide)
    have h3 := hC.1
    have h4 := hM.2.2.2.1
    cases k with
    | zero => exact absurd (congrArg Prod.fst hL) (by show ¬ ((-1 : Int) = n + ((c + 1 : Nat) : Int)); omega)
    | succ k =>
      unfold lkF
      have eL : sLc (E 38) (E 40) N ty (k + 1) n (K 78) = if n < N 13 then (if (sLp (E 38) (E 40) N n ty 3 0 (K 78)).1 = -1 then sLc (E 38) (E 40) N ty k (n + 1) (sLp (E 38) (E 40) N n ty 3 0 (K 78)).2 else (n, sLp (E 38) (E 40) N n ty 3 0 (K 78))) else (-1, (-1, K 78)) := rfl
      rw [eL] at hL
      by_cases cn : n < N 13
      · rw [if_pos cn] at hL ⊢
        by_cases c1 : (sLp (E 38) (E 40) N n ty 3 0 (K 78)).1 = -1
        · rw [if_pos c1] at hL ⊢
          have hp := lkP_78 (pm := E 38) (pd := E 40) (N := N) (n := n) (ty := ty) 3 0 K (by omega)
          rw [← hp.1] at hL
          have hn1 : n + 1 < N 13 := by
            rcases Int.lt_or_le (n + 1) (N 13) with h | h
            · exact h
            · exfalso
              cases k with
              | zero => exact absurd (congrArg Prod.fst hL) (by show ¬ ((-1 : Int) = n + ((c + 1 : Nat) : Int)); omega)
              | succ k =>
                have e2 : sLc (E 38) (E 40) N ty (k + 1) (n + 1) (lkP (E 38) (E 40) N n ty 3 0 K 78) = (-1, (-1, lkP (E 38) (E 40) N n ty 3 0 K 78)) := if_neg (by omega)
                rw [e2] at hL
                exact absurd (congrArg Prod.fst hL) (by show ¬ ((-1 : Int) = n + ((c + 1 : Nat) : Int)); omega)
          have hu := sUn1_r (ty := ty) hC hM (by omega) (by omega)
          have es : sAt M 0 = sAt N n := by unfold sAt; omega
          have hat : 14 ≤ sAt N n ∧ sAt N n + 1 < 78 := by unfold sAt; omega
          have e0 : M (sAt M 0) = N (sAt N n) := by rw [es]; exact e1 _ (by omega) (by omega)
          have hfl := sFin_lk (pd := E 40) (ty := ty) (pm := E 38) (N := N) (n := n) (nf := E 28 14) (fun _ _ _ => trivial) 3 0 (K 78) (E 38 (M (sAt M 0))) M K (Int.le_refl _) (by rw [if_pos c1, e0]) hM h3.2 (by omega) (by omega) (by omega) e0 (by rw [es]; exact e1 _ (by omega) (by omega)) e2 e3
          have hfr := sFin_r (ty := ty) (bef := E 38 (M (sAt M 0))) (pd := E 40) h3.2 (by have ha := sAt_r hM (Int.le_refl 0) (by omega); exact (hC.2.1 _ ha.2.1.1 ha.2.1.2).2.2.2) 3 0 M (Int.le_refl _) hM (by omega) (by omega)
          refine ih k (n + 1) (sBack (E 34) (sFin (E 40) ty (E 38 (M (sAt M 0))) 3 0 M)) (lkP (E 38) (E 40) N n ty 3 0 K) (by omega) (by rw [hL]; congr 1; omega) hu.2.1 (by rw [hu.2.2.1]; omega) (fun j x y => ?_) (fun j x y => (hu.2.2.2.1 j x y).trans (e1 j x y)) (fun j x => ?_) (by have := hu.2.2.2.2.1; omega) i hi
          · unfold sBack; rw [ui_n (by omega), cpf_n (by omega), hfr.2.1 j (by omega)]; exact e2 j x y
          · unfold sBack; rw [ui_n (by omega), cpf_n (by omega)]; exact hfl j x
        · rw [if_neg c1] at hL
          exact absurd (congrArg Prod.fst hL) (by show ¬ (n = n + ((c + 1 : Nat) : Int)); omega)
      · rw [if_neg cn] at hL
        exact absurd (congrArg Prod.fst hL) (by show ¬ ((-1 : Int) = n + ((c + 1 : Nat) : Int)); omega)
/-- what finishes ahead of the catcher, thrown: as it was looked for -/
theorem sRaise_lk {E : qD} {N : Int → Int} {ty : Int} (hC : CVd E) (hV : RVd (E 28 14) N) (h : ¬ (sCat (E 38) (E 40) N ty).1 = -1) : ∀ i, 78 ≤ i → sRaise (E 34) (E 38) (E 40) N ty (sCat (E 38) (E 40) N ty).1 (sCat (E 38) (E 40) N ty).2.1 i = lkF (E 38) (E 40) N ty 8 0 (ui N 78 0) i := by
  have hc := sCat_cp hV ty h
  have h13 := hV.1
  refine sUnw_lk hC hV _ 8 0 (ui N 78 0) (ui N 78 0) (Int.le_refl _) (fr := (sCat (E 38) (E 40) N ty).2.2) ?_ hV.u78 (by rw [ui_n (by omega)]; omega) (fun i x y => ui_n (by omega)) (fun i x y => ui_n (by omega)) (fun _ _ => rfl) (by rw [ui_s]; omega)
  rw [ui_s]
  show sCat (E 38) (E 40) N ty = _
  have e : (0 : Int) + (((sCat (E 38) (E 40) N ty).1.toNat : Nat) : Int) = (sCat (E 38) (E 40) N ty).1 := by omega
  rw [e]
