/-! ## what the machine's heap is to ours -/
def pz_v (b bs : Nat) : Value → Value
  | .ref i => .ref (b + i)
  | .retAddr _ => .ref bs
  | .int x => .int x
  | .long x => .long x
  | .float x => .float x
  | .double x => .double x
  | .null => .null
theorem pz_vc (b bs : Nat) (v : Value) : (pz_v b bs v).category = v.category := by cases v <;> rfl
theorem pz_vsum (b bs : Nat) (st : List Value) : ((st.map (pz_v b bs)).map fun v => v.category).sum = pz_sum st := by
  unfold pz_sum
  rw [List.map_map]
  congr 1
  apply List.map_congr_left
  intro v _
  exact pz_vc b bs v
abbrev pz_D : Type := va_G × ((Nat × Nat) × (ClassId × ClassId))
def pz_e (G : pz_D) : pz_E → va_E
  | .inl q => .inl (G.2.2.1, q.1, .inl q.2)
  | .inr (.inl q) => .inl (G.2.2.2, q.1, .inr (.inr (.inr (.inr (fun j => (q.2 j).map (fun z => G.2.1.1 + z))))))
  | .inr (.inr q) => .inr (q.1, q.2.map (pz_v G.2.1.1 G.2.1.2))
def pz_at (G : pz_D) (i : Nat) (e : pz_E) (H : Heap) : Prop := va_at G.1 px_cl (G.2.1.1 + i, pz_e G e) H
def pz_R (G : pz_D) (h : pz_H) (H : Heap) : Prop := H.size = G.2.1.1 + h.2.1 ∧ ∀ i, i < h.2.1 → pz_at G i (h.1 i) H
theorem pz_R.up {G : pz_D} {h : pz_H} {H H1 : Heap} {i : Nat} {e : pz_E} (r : pz_R G h H) (hi : i < h.2.1) (z : H1.size = H.size) (o : ∀ q, q ≠ G.2.1.1 + i → H1[q]? = H[q]?) (he : pz_at G i e H1) : pz_R G (pz_up h i e) H1 := by
  refine ⟨z.trans r.1, fun j hj => ?_⟩
  show pz_at G j (if j = i then e else h.1 j) H1
  by_cases q : j = i
  · rw [if_pos q, q]; exact he
  · rw [if_neg q]
    exact va_at.kept (r.2 j hj) (o _ (by show G.2.1.1 + j ≠ G.2.1.1 + i; omega))
theorem pz_R.nw {G : pz_D} {h : pz_H} {H H1 : Heap} {e : pz_E} {n : Nat} (r : pz_R G h H) (z : H1.size = H.size + 1) (o : ∀ q, q < H.size → H1[q]? = H[q]?) (he : va_at G.1 px_cl (H.size, pz_e G e) H1) : pz_R G (pz_nw h e n) H1 := by
  refine ⟨by rw [z, r.1]; show _ = _ + (h.2.1 + 1); omega, fun j hj => ?_⟩
  show pz_at G j (if j = h.2.1 then e else h.1 j) H1
  by_cases q : j = h.2.1
  · rw [if_pos q, q]
    have := he
    rw [r.1] at this
    exact this
  · rw [if_neg q]
    have hj' : j < h.2.1 + 1 := hj
    exact va_at.kept (r.2 j (by omega)) (o _ (by show G.2.1.1 + j < H.size; rw [r.1]; omega))
theorem pz_obj_spec {h : pz_H} {i c : Nat} {fs : List Value} (q : pz_obj h i c = some fs) : i < h.2.1 ∧ h.1 i = .inr (.inr (c, fs)) := by
  unfold pz_obj at q
  split at q
  · rename_i c' fs' e
    split at q
    · rename_i g
      cases q
      exact ⟨g.2, by rw [e, g.1]⟩
    · cases q
  · cases q
theorem pz_arr_spec {h : pz_H} {i : Nat} {f : Nat × (Nat → Int32)} (q : pz_arr h i = some f) : i < h.2.1 ∧ h.1 i = .inl f := by
  unfold pz_arr at q
  split at q
  · rename_i f' e
    split at q
    · rename_i g
      cases q
      exact ⟨g, e⟩
    · cases q
  · cases q
theorem pz_arq_spec {h : pz_H} {i : Nat} {f : Nat × (Nat → Option Nat)} (q : pz_arq h i = some f) : i < h.2.1 ∧ h.1 i = .inr (.inl f) := by
  unfold pz_arq at q
  split at q
  · rename_i f' e
    split at q
    · rename_i g
      cases q
      exact ⟨g, e⟩
    · cases q
  · cases q
theorem pz_one {G : pz_D} {h : pz_H} {H : Heap} {i : Nat} {e : pz_E} (r : pz_R G h H) (hi : i < h.2.1) (he : h.1 i = e) : va_P G.1 px_cl [(G.2.1.1 + i, pz_e G e)] H := by
  intro k q hk
  have hz : k < 1 := (List.getElem?_eq_some_iff.mp hk).1
  rw [show k = 0 by omega] at hk
  cases hk
  rw [← he]
  exact r.2 i hi
theorem pz_two {G : pz_D} {h : pz_H} {H : Heap} {i j : Nat} {e e' : pz_E} (r : pz_R G h H) (hi : i < h.2.1) (he : h.1 i = e) (hj : j < h.2.1) (he' : h.1 j = e') : va_P G.1 px_cl [(G.2.1.1 + i, pz_e G e), (G.2.1.1 + j, pz_e G e')] H := by
  intro k q hk
  have hz : k < 2 := (List.getElem?_eq_some_iff.mp hk).1
  rcases (show k = 0 ∨ k = 1 by omega) with rfl | rfl
  · cases hk
    rw [← he]
    exact r.2 i hi
  · cases hk
    rw [← he']
    exact r.2 j hj
/-! ## locals -/
def pz_Lr (G : pz_D) (L : pz_L) (ls : Array Slot) (n : Nat) : Prop := L.length = n ∧ ls.size = n ∧ lv_wf ls ∧ ∀ (i : Nat) (v : Value), pz_get L i = some v → ls[i]? = some (.val (pz_v G.2.1.1 G.2.1.2 v))
def pz_as (G : pz_D) (L : pz_L) : List (Nat × Value) := (List.range L.length).filterMap fun i => (pz_get L i).map fun v => (i, pz_v G.2.1.1 G.2.1.2 v)
theorem pz_get_lt {L : pz_L} {i : Nat} {v : Value} (h : pz_get L i = some v) : i < L.length := by
  unfold pz_get at h
  split at h
  · rename_i e
    exact (List.getElem?_eq_some_iff.mp e).1
  · cases h
theorem pz_as_mem {G : pz_D} {L : pz_L} {i : Nat} {v : Value} (h : pz_get L i = some v) : (i, pz_v G.2.1.1 G.2.1.2 v) ∈ pz_as G L :=
  List.mem_filterMap.mpr ⟨i, List.mem_range.mpr (pz_get_lt h), by rw [h]; rfl⟩
theorem pz_Lr.has {G : pz_D} {L : pz_L} {ls : Array Slot} {n : Nat} (h : pz_Lr G L ls n) : lv_has ls n (pz_as G L) := by
  refine ⟨h.2.1, h.2.2.1, fun q hq => ?_⟩
  obtain ⟨i, -, hi⟩ := List.mem_filterMap.mp hq
  cases hv : pz_get L i with
  | none => rw [hv] at hi; cases hi
  | some v =>
    rw [hv] at hi
    cases hi
    exact h.2.2.2 i v hv
theorem pz_get_set {L : pz_L} {i j : Nat} {x : Option Value} (hi : i < L.length) : pz_get (L.set i x) j = if j = i then x else pz_get L j := by
  unfold pz_get
  rw [List.getElem?_set]
  by_cases h : j = i
  · subst h
    rw [if_pos rfl, if_pos hi, if_pos rfl]
    cases x <;> rfl
  · rw [if_neg (Ne.symm h), if_neg h]
theorem pz_s1_spec {L L' : pz_L} {i : Nat} {v : Value} (h : pz_s1 L i v = some L') : i < L.length ∧ pz_c2 L i = false ∧ L' = L.set i (some v) := by
  unfold pz_s1 at h
  split at h
  · rename_i e
    simp only [Bool.and_eq_true, Bool.not_eq_true'] at e
    cases h
    exact ⟨Nat.le_of_ble_eq_true e.1, e.2, rfl⟩
  · cases h
theorem pz_s2_spec {L L' : pz_L} {i : Nat} {v : Value} (h : pz_s2 L i v = some L') : i + 1 < L.length ∧ pz_c2 L i = false ∧ L' = (L.set i (some v)).set (i + 1) none := by
  unfold pz_s2 at h
  split at h
  · rename_i e
    simp only [Bool.and_eq_true, Bool.not_eq_true'] at e
    cases h
    exact ⟨Nat.le_of_ble_eq_true e.1, e.2, rfl⟩
  · cases h
theorem pz_c2_no {L : pz_L} {i j : Nat} {w : Value} (h : pz_c2 L i = false) (hj : pz_get L j = some w) (e : j + 1 = i) : w.category ≠ 2 := by
  subst e
  have h' : (match pz_get L j with
    | some v => v.category == 2
    | none => false) = false := h
  rw [hj] at h'
  simpa using h'
theorem pz_st1 {G : pz_D} {L L' : pz_L} {ls ls' : Array Slot} {n i : Nat} {v : Value} (h : pz_Lr G L ls n) (hs : pz_s1 L i v = some L') (hl : lv_has ls' n ((i, pz_v G.2.1.1 G.2.1.2 v) :: (pz_as G L).filter (fun q => !(q.1 == i) && !(q.1 + 1 == i && q.2.category == 2)))) : pz_Lr G L' ls' n := by
  obtain ⟨h1, h2, rfl⟩ := pz_s1_spec hs
  refine ⟨by rw [List.length_set]; exact h.1, hl.1, hl.2.1, fun j w hj => ?_⟩
  rw [pz_get_set h1] at hj
  by_cases q : j = i
  · rw [if_pos q] at hj
    cases hj
    rw [q]
    exact hl.2.2 _ List.mem_cons_self
  · rw [if_neg q] at hj
    refine hl.2.2 (j, pz_v G.2.1.1 G.2.1.2 w) (List.mem_cons_of_mem _ (List.mem_filter.mpr ⟨pz_as_mem hj, ?_⟩))
    simp only [Bool.and_eq_true, Bool.not_eq_true', beq_eq_false_iff_ne, ne_eq, Bool.and_eq_false_iff]
    refine ⟨q, ?_⟩
    by_cases z : j + 1 = i
    · right
      rw [pz_vc]
      exact pz_c2_no h2 hj z
    · exact Or.inl z
theorem pz_st2 {G : pz_D} {L L' : pz_L} {ls ls' : Array Slot} {n i : Nat} {v : Value} (h : pz_Lr G L ls n) (hs : pz_s2 L i v = some L') (hl : lv_has ls' n ((i, pz_v G.2.1.1 G.2.1.2 v) :: (pz_as G L).filter (fun q => !(q.1 == i) && (!(q.1 == i + 1) && !(q.1 + 1 == i && q.2.category == 2))))) : pz_Lr G L' ls' n := by
  obtain ⟨h1, h2, rfl⟩ := pz_s2_spec hs
  refine ⟨by rw [List.length_set, List.length_set]; exact h.1, hl.1, hl.2.1, fun j w hj => ?_⟩
  rw [pz_get_set (by rw [List.length_set]; exact h1), pz_get_set (by omega)] at hj
  by_cases q1 : j = i + 1
  · rw [if_pos q1] at hj
    cases hj
  · rw [if_neg q1] at hj
    by_cases q : j = i
    · rw [if_pos q] at hj
      cases hj
      rw [q]
      exact hl.2.2 _ List.mem_cons_self
    · rw [if_neg q] at hj
      refine hl.2.2 (j, pz_v G.2.1.1 G.2.1.2 w) (List.mem_cons_of_mem _ (List.mem_filter.mpr ⟨pz_as_mem hj, ?_⟩))
      simp only [Bool.and_eq_true, Bool.not_eq_true', beq_eq_false_iff_ne, ne_eq, Bool.and_eq_false_iff]
      refine ⟨q, q1, ?_⟩
      by_cases z : j + 1 = i
      · right
        rw [pz_vc]
        exact pz_c2_no h2 hj z
      · exact Or.inl z
/-- a method's first locals -/
theorem pz_in_get (G : pz_D) (vs : List Value) : ∀ (pre : pz_L) (tl : pz_L) (i : Nat) (v : Value), (∀ x ∈ tl, x = none) → pz_get (pre ++ (pz_sl vs ++ tl)) i = some v → pre.length ≤ i → (i, pz_v G.2.1.1 G.2.1.2 v) ∈ lv_args pre.length (vs.map (pz_v G.2.1.1 G.2.1.2)) := by
  induction vs with
  | nil =>
    intro pre tl i v ht h hi
    exfalso
    unfold pz_get at h
    rw [List.getElem?_append_right hi] at h
    simp only [pz_sl, List.nil_append] at h
    split at h
    · rename_i e
      have := ht _ (List.mem_of_getElem? e)
      cases this
    · cases h
  | cons w t ih =>
    intro pre tl i v ht h hi
    simp only [List.map_cons, lv_args, pz_vc]
    by_cases hw : w.category = 2
    · rw [if_pos hw]
      simp only [pz_sl, hw, if_true] at h
      by_cases h0 : i = pre.length
      · subst h0
        unfold pz_get at h
        simp at h
        rw [h]
        exact List.mem_cons_self
      · by_cases h1 : i = pre.length + 1
        · exfalso
          subst h1
          unfold pz_get at h
          rw [List.getElem?_append_right (by omega)] at h
          simp at h
        · have h2 := ih (pre ++ [some w, none]) tl i v ht (by rw [← h]; simp) (by simp; omega)
          simp only [List.length_append, List.length_cons, List.length_nil] at h2
          exact List.mem_cons_of_mem _ h2
    · rw [if_neg hw]
      simp only [pz_sl, hw, if_false] at h
      by_cases h0 : i = pre.length
      · subst h0
        unfold pz_get at h
        simp at h
        rw [h]
        exact List.mem_cons_self
      · have h2 := ih (pre ++ [some w]) tl i v ht (by rw [← h]; simp) (by simp; omega)
        simp only [List.length_append, List.length_cons, List.length_nil] at h2
        exact List.mem_cons_of_mem _ h2
theorem pz_sl_len (G : pz_D) (vs : List Value) : (lg_sl (vs.map (pz_v G.2.1.1 G.2.1.2))).length = (pz_sl vs).length := by
  induction vs with
  | nil => rfl
  | cons w t ih =>
    by_cases hw : w.category = 2
    · have e : lg_sl ((w :: t).map (pz_v G.2.1.1 G.2.1.2)) = [.val (pz_v G.2.1.1 G.2.1.2 w), .second] ++ lg_sl (t.map (pz_v G.2.1.1 G.2.1.2)) := by simp [lg_sl, pz_vc, hw]
      rw [e, List.length_append, ih]
      simp [pz_sl, hw]; omega
    · have e : lg_sl ((w :: t).map (pz_v G.2.1.1 G.2.1.2)) = [.val (pz_v G.2.1.1 G.2.1.2 w)] ++ lg_sl (t.map (pz_v G.2.1.1 G.2.1.2)) := by simp [lg_sl, pz_vc, hw]
      rw [e, List.length_append, ih]
      simp [pz_sl, hw]; omega
theorem pz_entry (G : pz_D) (vs : List Value) {n : Nat} (h : (pz_sl vs).length ≤ n) : pz_Lr G (pz_in n vs) ((lg_sl (vs.map (pz_v G.2.1.1 G.2.1.2)) ++ List.replicate (n - (lg_sl (vs.map (pz_v G.2.1.1 G.2.1.2))).length) Slot.unset).toArray) n := by
  have hl := lv_entry (vs.map (pz_v G.2.1.1 G.2.1.2)) (n := n) (by rw [pz_sl_len]; exact h)
  refine ⟨by simp [pz_in]; omega, hl.1, hl.2.1, fun i v hi => ?_⟩
  refine hl.2.2 (i, pz_v G.2.1.1 G.2.1.2 v) ?_
  exact pz_in_get G vs [] (List.replicate (n - (pz_sl vs).length) none) i v (fun x hx => (List.mem_replicate.mp hx).2) hi (Nat.zero_le _)
