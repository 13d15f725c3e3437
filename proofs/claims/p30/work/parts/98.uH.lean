/-! ## what stands before the first call -/
def P0l : List (Nat × List (Nat × Nat)) := [(0, [(0, 1), (1, 3), (2, 5), (3, 7), (4, 11), (5, 15)]), (1, [(0, 2)]), (3, [(0, 4)]), (5, [(0, 6)]), (7, [(0, 8), (1, 9), (2, 10)]), (11, [(0, 12), (1, 13), (2, 14)]),
  (15, [(0, 16), (1, 22), (2, 23), (3, 24), (4, 25), (5, 26), (6, 27)]), (16, [(1, 17), (2, 18), (3, 19), (4, 20), (5, 21)])]
def P0n (a b : Nat) : Nat := match P0l.lookup a with
  | some l => (l.lookup b).getD 0
  | none => 0
def P0 (a : Nat) (i : Int) : Nat := match i with
  | .ofNat b => P0n a b
  | .negSucc _ => 0
def D0 : qD := fun a i => if a = 28 ∧ i = 35 then -1 else 0
/-- the cells themselves: all 0 -/
def Dz : qD := fun _ _ => 0
def t0 : qT := (qsT, (P0, (34, 830)))
def litC (a : Nat) : eE := if (qsT a).1 = 10 then .inl (qsT a).2.toNat else if (qsT a).1 = 11 then .inr (.inl (qsT a).2.toNat)
  else .inr (.inr ((qsT a).1, (List.range (px_N (qsT a).1)).map fun b => qF (px_ty (qsT a).1 b) (P0 a b) (Dz a b)))
def L0 : pz_L := [some (.retAddr 0), some (.ref 0), some (.ref 28), some (.ref 29), some (.ref 30), some (.ref 31), some (.ref 32), some (.ref 33), none, none, none, none]
def vq (a b : Value) : Bool := match a, b with
  | .int x, .int y => x == y
  | .long x, .long y => x == y
  | .null, .null => true
  | .ref x, .ref y => Nat.beq x y
  | .retAddr x, .retAddr y => Nat.beq x y
  | _, _ => false
theorem vq_e {a b : Value} (h : vq a b = true) : a = b := by
  unfold vq at h
  split at h
  · rw [eq_of_beq h]
  · rw [eq_of_beq h]
  · rfl
  · rw [Nat.eq_of_beq_eq_true h]
  · rw [Nat.eq_of_beq_eq_true h]
  · cases h
def lq {α : Type} (f : α → α → Bool) : List α → List α → Bool
  | [], [] => true
  | x :: xs, y :: ys => f x y && lq f xs ys
  | _, _ => false
theorem lq_e {α : Type} {f : α → α → Bool} (hf : ∀ x y, f x y = true → x = y) : ∀ xs ys, lq f xs ys = true → xs = ys := by
  intro xs
  induction xs with
  | nil => intro ys h; cases ys with
    | nil => rfl
    | cons y ys => cases h
  | cons x xs ih => intro ys h; cases ys with
    | nil => cases h
    | cons y ys =>
      have h : (f x y && lq f xs ys) = true := h
      rw [Bool.and_eq_true] at h
      rw [hf _ _ h.1, ih _ h.2]
def oq (a b : Option Value) : Bool := match a, b with
  | some x, some y => vq x y
  | none, none => true
  | _, _ => false
theorem oq_e (a b : Option Value) (h : oq a b = true) : a = b := by
  unfold oq at h
  split at h
  · rw [vq_e h]
  · rfl
  · cases h
def eq (a b : eE) : Bool := match a, b with
  | .inl n, .inl m => Nat.beq n m
  | .inr (.inl n), .inr (.inl m) => Nat.beq n m
  | .inr (.inr q), .inr (.inr r) => Nat.beq q.1 r.1 && lq vq q.2 r.2
  | _, _ => false
theorem eq_e (a b : eE) (h : eq a b = true) : a = b := by
  unfold eq at h
  split at h
  · rw [Nat.eq_of_beq_eq_true h]
  · rw [Nat.eq_of_beq_eq_true h]
  · rename_i q r
    rw [Bool.and_eq_true] at h
    have e1 := Nat.eq_of_beq_eq_true h.1
    have e2 := lq_e (fun _ _ => vq_e) _ _ h.2
    obtain ⟨q1, q2⟩ := q
    obtain ⟨r1, r2⟩ := r
    cases e1; cases e2; rfl
  · cases h
def xq (u w : pz_L × (List Value × (List eE × Nat))) : Bool := lq oq u.1 w.1 && (lq vq u.2.1 w.2.1 && (lq eq u.2.2.1 w.2.2.1 && Nat.beq u.2.2.2 w.2.2.2))
theorem xq_e {u w : pz_L × (List Value × (List eE × Nat))} (h : xq u w = true) : u = w := by
  unfold xq at h
  rw [Bool.and_eq_true, Bool.and_eq_true, Bool.and_eq_true] at h
  obtain ⟨a1, a2, a3, a4⟩ := u
  obtain ⟨b1, b2, b3, b4⟩ := w
  have e1 := lq_e oq_e _ _ h.1
  have e2 := lq_e (fun _ _ => vq_e) _ _ h.2.1
  have e3 := lq_e eq_e _ _ h.2.2.1
  have e4 := Nat.eq_of_beq_eq_true h.2.2.2
  cases e1; cases e2; cases e3; cases e4; rfl
def e_ck : Bool := match e_to 116 42 400 0 (pz_in 12 [.retAddr 0]) [] [] 0 with
  | some u => xq u (L0, ([], ((List.range 34).map litC, 830)))
  | none => false
set_option maxRecDepth 100000 in
theorem e_ck_k : e_ck = true := by decide +kernel
theorem e_first : e_to 116 42 400 0 (pz_in 12 [.retAddr 0]) [] [] 0 = some (L0, ([], ((List.range 34).map litC, 830))) := by
  have h := e_ck_k
  unfold e_ck at h
  split at h
  · rename_i u hu
    rw [hu, xq_e h]
  · cases h
theorem P0_neg {a n : Nat} : P0 a (.negSucc n) = 0 := rfl
theorem lk_mem {α : Type} : ∀ (l : List (Nat × α)) (a : Nat) (v : α), l.lookup a = some v → (a, v) ∈ l := by
  intro l
  induction l with
  | nil => intro a v h; cases h
  | cons p l ih =>
    intro a v h
    rw [List.lookup_cons] at h
    split at h
    · rename_i hb
      cases h
      have : a = p.1 := eq_of_beq hb
      rw [this]; exact List.mem_cons_self
    · exact List.mem_cons_of_mem _ (ih a v h)
set_option maxRecDepth 100000 in
theorem P0_k : (qSP.all fun p => p.2.all fun q => Nat.beq (P0n p.1 q.1) q.2) = true := by decide +kernel
theorem P0_st (a b v : Nat) (h : qsP a b = some v) : P0 a b = v := by
  unfold qsP at h
  split at h
  · rename_i l hl
    have h1 := lk_mem _ _ _ hl
    have h2 := lk_mem _ _ _ h
    have h3 := List.all_eq_true.mp P0_k _ h1
    have h4 := List.all_eq_true.mp h3 _ h2
    exact Nat.eq_of_beq_eq_true h4
  · cases h
set_option maxRecDepth 100000 in
theorem P0_sm : (P0l.all fun p => Nat.blt p.1 34 && !(Nat.beq (qsT p.1).1 11)) = true := by decide +kernel
theorem P0_0 {a : Nat} (h : (qsT a).1 = 11) (i : Int) : P0 a i = 0 := by
  cases i with
  | negSucc n => rfl
  | ofNat b =>
    show P0n a b = 0
    unfold P0n
    split
    · rename_i l hl
      have h1 := List.all_eq_true.mp P0_sm _ (lk_mem _ _ _ hl)
      have h1 : (Nat.blt a 34 && !(Nat.beq (qsT a).1 11)) = true := h1
      rw [h] at h1
      rw [Bool.and_eq_true] at h1
      exact absurd h1.2 (by decide)
    · rfl
theorem qsT_out {a : Nat} (ha : ¬ a < 34) : qsT a = (12, 0) := by
  unfold qsT
  rw [List.getD_eq_getElem?_getD, List.getElem?_eq_none (by rw [show qST.length = 34 from rfl]; omega)]
  rfl
set_option maxRecDepth 100000 in
theorem qsT_k : ((List.range 34).all fun a => decide (¬ (qsT a).1 = 12 ∧ 0 ≤ (qsT a).2 ∧ (qsT a).2 < 2147483648)) = true := by decide +kernel
theorem qsT_12 {a : Nat} (ha : a < 34) : ¬ (qsT a).1 = 12 := (of_decide_eq_true (List.all_eq_true.mp qsT_k _ (List.mem_range.mpr ha))).1
theorem qSt_0 : qSt t0 := by
  refine ⟨Nat.le_refl _, fun a h => ?_, fun a _ => rfl, P0_st, fun a => ?_⟩
  · by_cases ha : a < 34
    · exact ha
    · exact absurd (show (qsT a).1 = 12 by rw [qsT_out ha]) h
  · show 0 ≤ (qsT a).2 ∧ (qsT a).2 < 2147483648
    by_cases ha : a < 34
    · exact (of_decide_eq_true (List.all_eq_true.mp qsT_k _ (List.mem_range.mpr ha))).2
    · rw [qsT_out ha]; decide
theorem eH_0 : eH ((List.range 34).map litC) 830 = qH t0 Dz := by
  unfold eH qH
  refine congr (congrArg Prod.mk (funext fun a => ?_)) (by rw [List.length_map, List.length_range]; rfl)
  show eC ((List.range 34).map litC)[a]? = qE qsT P0 Dz a
  by_cases ha : a < 34
  · have e : ((List.range 34).map litC)[a]? = some (litC a) := by rw [List.getElem?_map, List.getElem?_range ha]; rfl
    rw [e]
    unfold litC qE
    by_cases h10 : (qsT a).1 = 10
    · rw [if_pos h10, if_pos h10]
      rfl
    · rw [if_neg h10, if_neg h10]
      by_cases h11 : (qsT a).1 = 11
      · rw [if_pos h11, if_pos h11]
        show (Sum.inr (Sum.inl ((qsT a).2.toNat, fun _ => none)) : pz_E) = Sum.inr (Sum.inl ((qsT a).2.toNat, fun i : Nat => if P0 a i = 0 then none else some (P0 a i)))
        rw [show (fun i : Nat => if P0 a i = 0 then none else some (P0 a i)) = fun _ => none from funext fun i => if_pos (P0_0 h11 _)]
      · rw [if_neg h11, if_neg h11, if_neg (qsT_12 ha)]
        rfl
  · rw [List.getElem?_eq_none (by rw [List.length_map, List.length_range]; omega)]
    have := qsT_out ha
    unfold qE
    rw [this]
    rfl
theorem D0_z {a : Nat} (ha : a ≠ 28) (i : Int) : D0 a i = 0 := if_neg fun z => ha z.1
theorem D0_y {i : Int} (hi : i ≠ 35) : D0 28 i = 0 := if_neg fun z => hi z.2
theorem D0_35 : D0 28 35 = -1 := if_pos ⟨rfl, rfl⟩
theorem RVd_0 {nf : Int} {N : Int → Int} (h : ∀ i, N i = 0) : RVd nf N := by
  unfold RVd
  rw [h 13, h 78]
  exact ⟨⟨Int.le_refl _, by decide⟩, fun l a b => absurd b (by omega), fun k a b => by rw [h k]; exact ⟨Int.le_refl _, by decide⟩, ⟨Int.le_refl _, by decide⟩, fun k a b => by rw [h k]; exact ⟨by decide, by decide⟩⟩
theorem CVd_0 : CVd D0 := by
  unfold CVd
  rw [D0_y (by decide)]
  exact ⟨⟨Int.le_refl _, by decide⟩, fun f a b => absurd b (by omega), fun f n a b => absurd b (by omega), fun i a b => absurd b (by omega), fun i a b => absurd b (by omega), fun f p a b => absurd b (by omega)⟩
theorem RVs_0 : RVs D0 := by
  unfold RVs
  rw [D0_y (i := 27) (by decide), D0_y (i := 31) (by decide), D0_y (i := 1) (by decide), D0_y (i := 15) (by decide)]
  exact ⟨CVd_0, RVd_0 (D0_z (by decide)), ⟨Int.le_refl _, by decide⟩, ⟨Int.le_refl _, by decide⟩, ⟨Int.le_refl _, by decide⟩, ⟨Int.le_refl _, by decide⟩, fun i a b => by rw [D0_z (by decide)]; exact ⟨Int.le_refl _, by decide⟩, fun i a b => absurd b (by omega)⟩
theorem CO_0 : CO t0 16 := ⟨⟨rfl, by decide, .inl ⟨by decide, by decide⟩⟩, ⟨rfl, rfl, by decide, .inl ⟨by decide, by decide⟩⟩, ⟨rfl, rfl, by decide, .inl ⟨by decide, by decide⟩⟩, ⟨rfl, rfl, by decide, .inl ⟨by decide, by decide⟩⟩, ⟨rfl, rfl, by decide, .inl ⟨by decide, by decide⟩⟩, ⟨rfl, rfl, by decide, .inl ⟨by decide, by decide⟩⟩⟩
theorem MO_0 : MO t0 15 := ⟨⟨rfl, by decide, .inl ⟨by decide, by decide⟩⟩, CO_0, ⟨rfl, rfl, by decide, .inl ⟨by decide, by decide⟩⟩, ⟨rfl, rfl, by decide, .inl ⟨by decide, by decide⟩⟩, ⟨rfl, rfl, by decide, .inl ⟨by decide, by decide⟩⟩, ⟨rfl, rfl, by decide, .inl ⟨by decide, by decide⟩⟩, ⟨rfl, rfl, by decide, .inl ⟨by decide, by decide⟩⟩, ⟨rfl, rfl, by decide, .inl ⟨by decide, by decide⟩⟩⟩
theorem XJ_0 : XJ t0 Dz D0 16 := by
  have z : ∀ a, a ≠ 28 → ∀ i, D0 a i = 0 := fun a ha i => D0_z ha i
  refine ⟨Nat.le_refl _, ⟨⟨?_, ?_, ?_⟩, ?_⟩, ⟨CO_0, ?_⟩, ⟨MO_0, rfl, ?_, RVd_0 (D0_z (by decide))⟩, ⟨?_, ?_, ?_, fun i a b => .inl (P0_0 rfl i), ?_⟩, ⟨?_, ?_⟩, ?_, .inl ⟨rfl, ?_⟩⟩
  · rw [D0_y (by decide)]; rfl
  · rw [D0_y (by decide)]; exact ⟨Int.le_refl _, by decide⟩
  · rw [D0_y (by decide)]; exact fun i a b => absurd b (by omega)
  · rw [D0_y (by decide)]; rfl
  · unfold CR
    rw [D0_y (i := 14) (by decide)]
    exact ⟨rfl, fun f x w a b => absurd b (by omega), fun f x a b => absurd b (by omega), fun f a b => absurd b (by omega), fun f p w a b => absurd b (by omega), fun f a b => absurd b (by omega), fun f n a b => absurd b (by omega)⟩
  · refine ⟨fun k a b => ?_, fun k a b => ?_, ?_, fun k a b => ?_, fun k a b => ?_, fun l c a b x y => ?_, ?_, fun k a b => ?_⟩
    all_goals (rw [z 42 (by decide)]; rfl)
  · rw [D0_y (by decide)]; rfl
  · exact ⟨Int.le_refl _, by decide⟩
  · rw [D0_y (by decide)]; exact ⟨Int.le_refl _, by decide⟩
  · rw [D0_y (by decide)]; exact fun j a b => absurd b (by omega)
  · rw [D0_y (by decide)]; rfl
  · rw [D0_y (by decide)]; exact fun i a b => absurd b (by omega)
  · rw [D0_35, D0_y (by decide)]; exact ⟨Int.le_refl _, by decide⟩
  · rw [D0_35, D0_y (by decide)]; decide
