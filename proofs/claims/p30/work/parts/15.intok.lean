/-! ## the rows over Int are rows of our machine -/
theorem chk_i {c : Prop} [Decidable c] {K : Prop} (h : c) (k : K) : chk c K := by unfold chk; rw [if_pos h]; exact k
theorem chk_e {c : Prop} [Decidable c] {K : Prop} (h : chk c K) : c ∧ K := by
  unfold chk at h
  by_cases hc : c
  · rw [if_pos hc] at h; exact ⟨hc, h⟩
  · rw [if_neg hc] at h; exact h.elim
theorem qEx.rfl' {t : qT} : qEx t t := ⟨Nat.le_refl _, Nat.le_refl _, fun _ _ => rfl⟩
theorem qEx.trans {t u v : qT} (h : qEx t u) (k : qEx u v) : qEx t v := ⟨Nat.le_trans h.1 k.1, Nat.le_trans h.2.1 k.2.1, fun a ha => (k.2.2 a (Nat.lt_of_lt_of_le ha h.1)).trans (h.2.2 a ha)⟩
theorem pz_mono (S : (Nat → Int32) × Nat) : ∀ (n m pc : Nat) (L : pz_L) (st : List Value) (h : pz_H) (r : Option Value × pz_H), pz_run S n m pc L st h = some r → ∀ k, n ≤ k → pz_run S k m pc L st h = some r := by
  intro n
  induction n with
  | zero => intro m pc L st h r hr; cases hr
  | succ n ih =>
    intro m pc L st h r hr k hk
    obtain ⟨k, rfl⟩ : ∃ j, k = j + 1 := ⟨k - 1, by omega⟩
    have hk' : n ≤ k := by omega
    unfold pz_run at hr ⊢
    split at hr
    · cases hr
    · rename_i kk hkk
      (try rw [hkk])
      (try dsimp only)
      split at hr
      · cases hr
      · rename_i q hq
        (try rw [hq])
        exact ih _ _ _ _ _ _ hr k hk'
      · rename_i v hv
        (try rw [hv])
        exact hr
      · rename_i q hq
        (try rw [hq])
        (try dsimp only)
        split at hr
        · cases hr
        · rename_i u hu
          (try rw [ih _ _ _ _ _ _ hu k hk'])
          exact ih _ _ _ _ _ _ hr k hk'
section QZ1
variable {S : (Nat → Int32) × Nat} {m pc : Nat} {k : px_K} {L : qL} {st : List qV} {t : qT} {D : qD} {Q : Int → qT → qD → Prop} {K : qK}
theorem wp_mono {Q' : Int → qT → qD → Prop} (h : wp S m pc L st t D Q) (hq : ∀ x t' D', qSt t' → qEx t t' → Q x t' D' → Q' x t' D') : wp S m pc L st t D Q' := by
  intro s
  obtain ⟨N, x, t', D', h1, h2, h3, h4⟩ := h s
  exact ⟨N, x, t', D', h1, h2, h3, hq _ _ _ h2 h3 h4⟩
theorem wp_st (h : qSt t → wp S m pc L st t D Q) : wp S m pc L st t D Q := fun s => h s s
theorem wp_cg {L' : qL} {st' : List qV} (hL : qcl L = qcl L') (hs : st.map qc = st'.map qc) (h : wp S m pc L st t D Q) : wp S m pc L' st' t D Q := by
  intro s
  obtain ⟨N, x, t', D', h1, h2, h3, h4⟩ := h s
  exact ⟨N, x, t', D', by rw [← hL, ← hs]; exact h1, h2, h3, h4⟩
theorem wp_go {pc' : Nat} {L' : qL} {st' : List qV} {t' : qT} {D' : qD} (hk : px_at m pc = some k) (hs : qSt t → pz_step S (px_rt m) k pc (qcl L) (st.map qc) (qH t D) = some (.inl (pc', qcl L', st'.map qc, qH t' D'))) (hS : qSt t → qSt t') (hE : qSt t → qEx t t') (h : wp S m pc' L' st' t' D' Q) : wp S m pc L st t D Q := by
  intro s
  obtain ⟨N, x, t'', D'', h1, h2, h3, h4⟩ := h (hS s)
  refine ⟨N + 1, x, t'', D'', ?_, h2, (hE s).trans h3, h4⟩
  unfold pz_run
  rw [hk]
  dsimp only
  rw [hs s]
  exact h1
theorem wp_gs {pc' : Nat} {L' : qL} {st' : List qV} {D' : qD} (hk : px_at m pc = some k) (hs : qSt t → pz_step S (px_rt m) k pc (qcl L) (st.map qc) (qH t D) = some (.inl (pc', qcl L', st'.map qc, qH t D'))) (h : wp S m pc' L' st' t D' Q) : wp S m pc L st t D Q :=
  wp_go hk hs id (fun _ => qEx.rfl') h
theorem wp_rt {x : Int} (hk : px_at m pc = some k) (hs : qSt t → pz_step S (px_rt m) k pc (qcl L) (st.map qc) (qH t D) = some (.inr (.inl (qcR (px_rt m) x)))) (h : Q x t D) : wp S m pc L st t D Q := by
  intro s
  refine ⟨1, x, t, D, ?_, s, qEx.rfl', h⟩
  unfold pz_run
  rw [hk]
  dsimp only
  rw [hs s]
theorem qcl_len (L : qL) : (qcl L).length = L.length := List.length_map _
theorem qcl_get (L : qL) (i : Nat) : pz_get (qcl L) i = (qget L i).map qc := by
  unfold pz_get qget qcl
  rw [List.getElem?_map]
  cases L[i]? with
  | none => rfl
  | some o => cases o <;> rfl
theorem qc_cat (v : qV) : (qc v).category = qcat v := by
  rcases v with x | x | x | x | x
  · rfl
  · rfl
  · rfl
  · show (if x = 0 then Value.null else Value.ref x).category = 1
    split <;> rfl
  · rfl
theorem qcl_c2 (L : qL) (i : Nat) : pz_c2 (qcl L) i = qc2 L i := by
  cases i with
  | zero => rfl
  | succ k =>
    show (match pz_get (qcl L) k with | some v => v.category == 2 | none => false) = (match qget L k with | some v => qcat v == 2 | none => false)
    rw [qcl_get]
    cases qget L k with
    | none => rfl
    | some v => show ((qc v).category == 2) = _; rw [qc_cat]
theorem qcl_set (L : qL) (i : Nat) (v : Option qV) : (qcl L).set i (v.map qc) = qcl (L.set i v) := by
  unfold qcl
  rw [List.map_set]
theorem qcl_s1 {L : qL} {i : Nat} (v : qV) (h1 : i < L.length) (h2 : qc2 L i = false) : pz_s1 (qcl L) i (qc v) = some (qcl (L.set i (some v))) := by
  unfold pz_s1
  rw [qcl_len, qcl_c2, h2, show Nat.blt i L.length = true from Nat.blt_eq.mpr h1]
  exact congrArg some (qcl_set L i (some v))
theorem qcl_s2 {L : qL} {i : Nat} (v : qV) (h1 : i + 1 < L.length) (h2 : qc2 L i = false) : pz_s2 (qcl L) i (qc v) = some (qcl ((L.set i (some v)).set (i + 1) none)) := by
  unfold pz_s2
  rw [qcl_len, qcl_c2, h2, show Nat.blt (i + 1) L.length = true from Nat.blt_eq.mpr h1]
  exact congrArg some (by rw [show some (qc v) = (some v : Option qV).map qc from rfl, qcl_set, show (none : Option Value) = (none : Option qV).map qc from rfl, qcl_set])
theorem qsum_eq (st : List qV) : pz_sum (st.map qc) = qsum st := by
  unfold pz_sum qsum
  rw [List.map_map]
  congr 1
  exact List.map_congr_left fun v _ => qc_cat v
theorem qsl_eq (vs : List qV) : pz_sl (vs.map qc) = qcl (qsl vs) := by
  induction vs with
  | nil => rfl
  | cons v vs ih =>
    show (if (qc v).category = 2 then some (qc v) :: none :: pz_sl (vs.map qc) else some (qc v) :: pz_sl (vs.map qc)) = qcl (if qcat v = 2 then some v :: none :: qsl vs else some v :: qsl vs)
    rw [qc_cat, ih]
    split <;> rfl
theorem qin_eq (n : Nat) (vs : List qV) : pz_in n (vs.map qc) = qcl (qin n vs) := by
  unfold pz_in qin
  rw [qsl_eq, qcl_len]
  show _ = List.map _ (_ ++ _)
  rw [List.map_append, List.map_replicate]
  rfl
/-! ### the heap -/
theorem i32_nat {j : Int} (h : qR j) : (Int32.ofInt j).toNatClampNeg = j.toNat := Int32.toNatClampNeg_ofInt_of_le h.1 h.2
theorem i32_int {j : Int} (h : qR j) : (Int32.ofInt j).toInt = j := Int32.toInt_ofInt_of_le h.1 h.2
theorem i64_int {j : Int} (h : qR64 j) : (Int64.ofInt j).toInt = j := Int64.toInt_ofInt_of_le h.1 h.2
theorem i32_lt {x y : Int} (hx : qR x) (hy : qR y) : (Int32.ofInt x < Int32.ofInt y) ↔ x < y := by
  rw [Int32.lt_iff_toInt_lt, i32_int hx, i32_int hy]
theorem i32_le {x y : Int} (hx : qR x) (hy : qR y) : (Int32.ofInt x ≤ Int32.ofInt y) ↔ x ≤ y := by
  rw [Int32.le_iff_toInt_le, i32_int hx, i32_int hy]
theorem i32_eq {x y : Int} (hx : qR x) (hy : qR y) : (Int32.ofInt x = Int32.ofInt y) ↔ x = y := by
  constructor
  · intro h
    have := congrArg Int32.toInt h
    rwa [i32_int hx, i32_int hy] at this
  · rintro rfl; rfl
theorem pz_ixq {j n : Int} (h : 0 ≤ j ∧ j < n) (hn : n < 2147483648) : pz_ixd (Int32.ofInt j) n.toNat = true := by
  have hr : qR j := ⟨by omega, by omega⟩
  unfold pz_ixd
  rw [i32_nat hr, show (decide (Int32.ofInt j < 0)) = false from decide_eq_false (by rw [show (0 : Int32) = Int32.ofInt 0 from rfl, i32_lt hr ⟨by decide, by decide⟩]; omega)]
  rw [show Nat.blt j.toNat n.toNat = true from Nat.blt_eq.mpr (by omega)]
  rfl
theorem qH_1 (a : Nat) : (qH t D).1 a = qE t.1 t.2.1 D a := rfl
theorem qH_arr (s : qSt t) {a : Nat} (h : (t.1 a).1 = 10) : pz_arr (qH t D) a = some ((t.1 a).2.toNat, fun i : Nat => Int32.ofInt (D a i)) := by
  have hl : a < t.2.2.1 := s.2.1 a (by rw [h]; decide)
  unfold pz_arr
  rw [qH_1, show qE t.1 t.2.1 D a = .inl ((t.1 a).2.toNat, fun i : Nat => Int32.ofInt (D a i)) from by unfold qE; rw [if_pos h]]
  exact if_pos hl
theorem qH_arq (s : qSt t) {a : Nat} (h : (t.1 a).1 = 11) : pz_arq (qH t D) a = some ((t.1 a).2.toNat, fun i : Nat => if t.2.1 a i = 0 then none else some (t.2.1 a i)) := by
  have hl : a < t.2.2.1 := s.2.1 a (by rw [h]; decide)
  unfold pz_arq
  rw [qH_1, show qE t.1 t.2.1 D a = .inr (.inl ((t.1 a).2.toNat, fun i : Nat => if t.2.1 a i = 0 then none else some (t.2.1 a i))) from by unfold qE; rw [h, if_neg (by decide), if_pos rfl]]
  exact if_pos hl
def qFs (t : qT) (D : qD) (c a : Nat) : List Value := (List.range (px_N c)).map fun b => qF (px_ty c b) (t.2.1 a b) (D a b)
theorem qH_obj (s : qSt t) {a c : Nat} (h : (t.1 a).1 = c) (hc : c < 10) : pz_obj (qH t D) a c = some (qFs t D c a) := by
  have hl : a < t.2.2.1 := s.2.1 a (by rw [h]; omega)
  unfold pz_obj
  rw [qH_1, show qE t.1 t.2.1 D a = .inr (.inr (c, qFs t D c a)) from by unfold qE qFs; rw [h, if_neg (by omega), if_neg (by omega), if_neg (by omega)]]
  exact if_pos ⟨rfl, hl⟩
theorem qFs_get {c a b : Nat} (hb : b < px_N c) : (qFs t D c a)[b]? = some (qF (px_ty c b) (t.2.1 a b) (D a b)) := by
  unfold qFs
  rw [List.getElem?_map, List.getElem?_range hb]
  rfl
theorem qH_upa {a : Nat} {j x : Int} (h : (t.1 a).1 = 10) (hj : 0 ≤ j) : pz_up (qH t D) a (.inl ((t.1 a).2.toNat, upd (fun i : Nat => Int32.ofInt (D a i)) j.toNat (Int32.ofInt x))) = qH t (up D a j x) := by
  unfold pz_up
  refine Prod.ext (funext fun b => ?_) rfl
  show (if b = a then _ else qE t.1 t.2.1 D b) = qE t.1 t.2.1 (up D a j x) b
  by_cases hb : b = a
  · subst hb
    rw [if_pos rfl]
    unfold qE
    rw [if_pos h]
    refine congrArg _ (Prod.ext rfl (funext fun i => ?_))
    show (if i = j.toNat then _ else _) = Int32.ofInt (if b = b ∧ (i : Int) = j then x else D b i)
    by_cases hi : i = j.toNat
    · rw [if_pos hi, if_pos ⟨rfl, by omega⟩]
    · rw [if_neg hi, if_neg (fun q => hi (by omega))]
  · rw [if_neg hb]
    have e : ∀ i, up D a j x b i = D b i := fun i => if_neg (fun q => hb q.1)
    unfold qE
    simp only [e]
theorem qH_upo {a c b : Nat} {x : Int} (h : (t.1 a).1 = c) (hc : c < 10) (hb : b < px_N c) {v : Value} (hv : qF (px_ty c b) (t.2.1 a b) x = v) : pz_up (qH t D) a (.inr (.inr (c, (qFs t D c a).set b v))) = qH t (up D a b x) := by
  unfold pz_up
  refine Prod.ext (funext fun d => ?_) rfl
  show (if d = a then _ else qE t.1 t.2.1 D d) = qE t.1 t.2.1 (up D a b x) d
  by_cases hd : d = a
  · subst hd
    rw [if_pos rfl]
    unfold qE
    rw [h, if_neg (by omega), if_neg (by omega), if_neg (by omega)]
    refine congrArg (fun z => Sum.inr (Sum.inr (c, z))) ?_
    apply List.ext_getElem?
    intro i
    rw [List.getElem?_set]
    unfold qFs
    rw [List.getElem?_map, List.getElem?_map, List.length_map, List.length_range]
    by_cases hi : b = i
    · subst hi
      rw [if_pos rfl, if_pos hb, List.getElem?_range hb]
      show some v = some (qF _ _ (if d = d ∧ (b : Int) = b then x else _))
      rw [if_pos ⟨rfl, rfl⟩, hv]
    · rw [if_neg hi]
      by_cases hi2 : i < px_N c
      · rw [List.getElem?_range hi2]
        show some (qF _ _ (D d i)) = some (qF _ _ (if d = d ∧ (i : Int) = b then x else D d i))
        rw [if_neg (fun q => hi (by omega))]
      · rw [List.getElem?_eq_none (by rw [List.length_range]; omega)]
        rfl
  · rw [if_neg hd]
    have e : ∀ i, up D a b x d i = D d i := fun i => if_neg (fun q => hd q.1)
    unfold qE
    simp only [e]
end QZ1
