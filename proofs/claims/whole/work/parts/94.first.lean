/-! ## what stands before the first call -/
def P0l : List (Nat × List (Nat × Nat)) := [(0, [(0, 1), (1, 3), (2, 5), (3, 7), (4, 11), (5, 15)]), (1, [(0, 2)]), (3, [(0, 4)]), (5, [(0, 6)]), (7, [(0, 8), (1, 9), (2, 10)]), (11, [(0, 12), (1, 13), (2, 14)]),
  (15, [(0, 16), (1, 22), (2, 23), (3, 24), (4, 25), (5, 26), (6, 27)]), (16, [(1, 17), (2, 18), (3, 19), (4, 20), (5, 21)]),
  (28, [(0, 29), (10, 30), (11, 31), (12, 32), (13, 33), (16, 34), (17, 35), (18, 36), (19, 37), (20, 38), (21, 39), (22, 40), (23, 41), (25, 42), (26, 43), (32, 44), (34, 45), (38, 46), (39, 47), (40, 48)])]
def P0n (a b : Nat) : Nat := match P0l.lookup a with
  | some l => (l.lookup b).getD 0
  | none => 0
def P0 (a : Nat) (i : Int) : Nat := match i with
  | .ofNat b => P0n a b
  | .negSucc _ => 0
def D0 : qD := fun a i => if a = 28 ∧ i = 35 then -1 else 0
def t0 : qT := (qsT, (P0, (49, 8201)))
def litC (a : Nat) : eE := if (qsT a).1 = 10 then .inl (qsT a).2.toNat else if (qsT a).1 = 11 then .inr (.inl (qsT a).2.toNat)
  else .inr (.inr ((qsT a).1, (List.range (px_N (qsT a).1)).map fun b => qF (px_ty (qsT a).1 b) (P0 a b) (D0 a b)))
def L0 : pz_L := [some (.retAddr 0), some (.ref 0), some (.ref 28), some (.int (Int32.ofInt 0))]
def vq (a b : Value) : Bool := match a, b with
  | .int x, .int y => x == y
  | .long x, .long y => x == y
  | .null, .null => true
  | .ref x, .ref y => Nat.beq x y
  | .retAddr x, .retAddr y => Nat.beq x y
  | _, _ => false
theorem vq_e {a b : Value} (h : vq a b = true) : a = b := by
  unfold vq at h
  split at h
  · rw [eq_of_beq h]
  · rw [eq_of_beq h]
  · rfl
  · rw [Nat.eq_of_beq_eq_true h]
  · rw [Nat.eq_of_beq_eq_true h]
  · cases h
def lq {α : Type} (f : α → α → Bool) : List α → List α → Bool
  | [], [] => true
  | x :: xs, y :: ys => f x y && lq f xs ys
  | _, _ => false
theorem lq_e {α : Type} {f : α → α → Bool} (hf : ∀ x y, f x y = true → x = y) : ∀ xs ys, lq f xs ys = true → xs = ys := by
  intro xs
  induction xs with
  | nil => intro ys h; cases ys with
    | nil => rfl
    | cons y ys => cases h
  | cons x xs ih => intro ys h; cases ys with
    | nil => cases h
    | cons y ys =>
      have h : (f x y && lq f xs ys) = true := h
      rw [Bool.and_eq_true] at h
      rw [hf _ _ h.1, ih _ h.2]
def oq (a b : Option Value) : Bool := match a, b with
  | some x, some y => vq x y
  | none, none => true
  | _, _ => false
theorem oq_e (a b : Option Value) (h : oq a b = true) : a = b := by
  unfold oq at h
  split at h
  · rw [vq_e h]
  · rfl
  · cases h
def eq (a b : eE) : Bool := match a, b with
  | .inl n, .inl m => Nat.beq n m
  | .inr (.inl n), .inr (.inl m) => Nat.beq n m
  | .inr (.inr q), .inr (.inr r) => Nat.beq q.1 r.1 && lq vq q.2 r.2
  | _, _ => false
theorem eq_e (a b : eE) (h : eq a b = true) : a = b := by
  unfold eq at h
  split at h
  · rw [Nat.eq_of_beq_eq_true h]
  · rw [Nat.eq_of_beq_eq_true h]
  · rename_i q r
    rw [Bool.and_eq_true] at h
    have e1 := Nat.eq_of_beq_eq_true h.1
    have e2 := lq_e (fun _ _ => vq_e) _ _ h.2
    obtain ⟨q1, q2⟩ := q
    obtain ⟨r1, r2⟩ := r
    cases e1; cases e2; rfl
  · cases h
def xq (u w : pz_L × (List Value × (List eE × Nat))) : Bool := lq oq u.1 w.1 && (lq vq u.2.1 w.2.1 && (lq eq u.2.2.1 w.2.2.1 && Nat.beq u.2.2.2 w.2.2.2))
theorem xq_e {u w : pz_L × (List Value × (List eE × Nat))} (h : xq u w = true) : u = w := by
  unfold xq at h
  rw [Bool.and_eq_true, Bool.and_eq_true, Bool.and_eq_true] at h
  obtain ⟨a1, a2, a3, a4⟩ := u
  obtain ⟨b1, b2, b3, b4⟩ := w
  have e1 := lq_e oq_e _ _ h.1
  have e2 := lq_e (fun _ _ => vq_e) _ _ h.2.1
  have e3 := lq_e eq_e _ _ h.2.2.1
  have e4 := Nat.eq_of_beq_eq_true h.2.2.2
  cases e1; cases e2; cases e3; cases e4; rfl
def e_ck : Bool := match e_to 188 18 400 0 (pz_in 4 [.retAddr 0]) [] [] 0 with
  | some u => xq u (L0, ([], ((List.range 49).map litC, 8201)))
  | none => false
set_option maxRecDepth 100000 in
theorem e_ck_k : e_ck = true := by decide +kernel
theorem e_first : e_to 188 18 400 0 (pz_in 4 [.retAddr 0]) [] [] 0 = some (L0, ([], ((List.range 49).map litC, 8201))) := by
  have h := e_ck_k
  unfold e_ck at h
  split at h
  · rename_i u hu
    rw [hu, xq_e h]
  · cases h
