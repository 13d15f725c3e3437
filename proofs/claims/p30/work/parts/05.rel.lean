/-! ## the tables' facts, taken out -/
theorem px_of {m pc : Nat} {k : px_K} (h : px_at m pc = some k) : (pc, k) ∈ px_tab m := by
  unfold px_at at h
  generalize px_tab m = l at h
  induction l with
  | nil => simp at h
  | cons q t ih =>
    obtain ⟨a, b⟩ := q
    rw [List.lookup_cons] at h
    by_cases e : pc == a
    · rw [e] at h
      cases h
      rw [beq_iff_eq.mp e]
      exact List.mem_cons_self
    · rw [show (pc == a) = false by simpa using e] at h
      exact List.mem_cons_of_mem _ (ih h)
theorem px_tlen : px_tabs.length = 117 := by decide +kernel
theorem px_lt {m pc : Nat} {k : px_K} (h : px_at m pc = some k) : m < 117 := by
  have h1 := px_of h
  rcases Nat.lt_or_ge m 117 with q | q
  · exact q
  · unfold px_tab at h1
    rw [List.getD_eq_getElem?_getD, List.getElem?_eq_none (by rw [px_tlen]; exact q)] at h1
    cases h1
theorem px_dec {m pc : Nat} {k : px_K} (h : px_at m pc = some k) : decode (px_c m) pc = .ok (k.1, k.2.1) := by
  have h1 := List.all_eq_true.mp (px_dall m (px_lt h)) _ (px_of h)
  unfold px_dk at h1
  split at h1
  · rename_i p hp
    simp only [Bool.and_eq_true, decide_eq_true_eq, beq_iff_eq] at h1
    rw [hp, ← h1.1, ← h1.2]
  · cases h1
theorem px_lnk {m pc : Nat} {k : px_K} (h : px_at m pc = some k) : px_lk m k = true := by
  have h1 := List.all_eq_true.mp (List.all_eq_true.mp px_lk_k m (List.mem_range.mpr (px_lt h))) _ (px_of h)
  exact h1
theorem px_len {m pc : Nat} {k : px_K} (h : px_at m pc = some k) : pz_ln k = true := by
  have h1 := List.all_eq_true.mp (List.all_eq_true.mp pz_ln_k m (List.mem_range.mpr (by rw [px_tlen]; exact px_lt h))) _ (px_of h)
  exact h1
/-- a class by its number -/
theorem px_c10 {P : Nat → Prop} (h0 : P 0) (h1 : P 1) (h2 : P 2) (h3 : P 3) (h4 : P 4) (h5 : P 5) (h6 : P 6) (h7 : P 7) (h8 : P 8) (h9 : P 9) {c : Nat} (hc : c < 10) : P c := by
  have h : c = 0 ∨ c = 1 ∨ c = 2 ∨ c = 3 ∨ c = 4 ∨ c = 5 ∨ c = 6 ∨ c = 7 ∨ c = 8 ∨ c = 9 := by omega
  rcases h with rfl | rfl | rfl | rfl | rfl | rfl | rfl | rfl | rfl | rfl <;> assumption
theorem px_clat {c : Nat} (hc : c < 10) : px_cl[c]? = some (px_R c, px_T c, px_N c) := px_c10 (P := fun c => px_cl[c]? = some (px_R c, px_T c, px_N c)) rfl rfl rfl rfl rfl rfl rfl rfl rfl rfl hc
theorem px_tyok {c : Nat} (hc : c < 10) : ∀ k, k < px_N c → parseFieldDescriptor (px_T c k).2.2.1 = some (px_ty c k) := px_c10 (P := fun c => ∀ k, k < px_N c → parseFieldDescriptor (px_T c k).2.2.1 = some (px_ty c k)) tyX0_ok tyX1_ok tyX2_ok tyX3_ok tyX4_ok tyX5_ok tyX6_ok tyX7_ok tyX8_ok tyX0_ok hc
theorem px_nm {c : Nat} (hc : c < 10) : ∀ a, a < px_N c → ∀ b, b < px_N c → a ≠ b → (px_T c a).2.1 ≠ (px_T c b).2.1 := px_c10 (P := fun c => ∀ a, a < px_N c → ∀ b, b < px_N c → a ≠ b → (px_T c a).2.1 ≠ (px_T c b).2.1) nmX0 nmX1 nmX2 nmX3 nmX4 nmX5 nmX6 nmX7 nmX8 nmX0 hc
set_option maxRecDepth 100000 in
theorem px_uws : ((List.range 10).all fun c => (u_ws (px_R c) (px_T c) (px_N c)).all fun w => decide (w ∈ lw_tbl) && goodWord w) = true := by decide +kernel
theorem px_uin {c : Nat} (hc : c < 10) : ∀ w ∈ u_ws (px_R c) (px_T c) (px_N c), w ∈ px_gt := by
  intro w hw
  have h := List.all_eq_true.mp (List.all_eq_true.mp px_uws c (List.mem_range.mpr hc)) w hw
  simp only [Bool.and_eq_true, decide_eq_true_eq] at h
  exact px_in h.1 h.2
theorem px_dfk : ((List.range 10).all fun c => (px_df c).length == px_N c && (List.range (px_N c)).all fun k => decide (defaultValue (px_ty c k) = vp_V (px_df c) k)) = true := by decide +kernel
theorem px_dfl {c : Nat} (hc : c < 10) : (px_df c).length = px_N c ∧ ∀ k, k < px_N c → defaultValue (px_ty c k) = vp_V (px_df c) k := by
  have h := List.all_eq_true.mp px_dfk c (List.mem_range.mpr hc)
  simp only [Bool.and_eq_true, beq_iff_eq] at h
  exact ⟨h.1, fun k hk => of_decide_eq_true (List.all_eq_true.mp h.2 k (List.mem_range.mpr hk))⟩
theorem px_dfv : ((List.range 10).all fun c => (px_df c).all fun v => decide (v = .null) || decide (v = .int 0) || decide (v = .long 0)) = true := by decide +kernel
/-! ## links -/
theorem px_fkk {m i a b : Nat} (h : px_fk m i a b = true) : a < 10 ∧ b < px_N a ∧ Cond.fieldLink (px_R (px_o m)) i (px_T a b).1 (px_T a b).2.1 (px_T a b).2.2.1 ∈ px_gt := by
  unfold px_fk at h
  simp only [Bool.and_eq_true, List.any_eq_true, beq_iff_eq] at h
  obtain ⟨⟨⟨q, hq, ⟨⟨h1, h2⟩, h3⟩, h4⟩, h5⟩, h6⟩ := h
  have h7 := List.all_eq_true.mp px_fl_k q hq
  have h8 := List.mem_of_getElem? (of_decide_eq_true h7)
  rw [h1, h2, h3, h4] at h8
  exact ⟨Nat.le_of_ble_eq_true h5, Nat.le_of_ble_eq_true h6, px_in h8 rfl⟩
theorem px_nkk {m i a : Nat} (h : px_nk m i a = true) : a < 10 ∧ Cond.classLink (px_R (px_o m)) i (px_R a) ∈ px_gt ∧ Cond.instantiable (px_R a) (px_N a) ∈ px_gt ∧ Cond.initialized (px_R a) ∈ px_gt := by
  unfold px_nk at h
  simp only [Bool.and_eq_true, List.any_eq_true, beq_iff_eq] at h
  obtain ⟨⟨q, hq, ⟨h1, h2⟩, h3⟩, h5⟩ := h
  have h7 := List.all_eq_true.mp px_nl_k q hq
  simp only [Bool.and_eq_true, decide_eq_true_eq] at h7
  rw [h1, h2, h3] at h7
  exact ⟨Nat.le_of_ble_eq_true h5, px_in (List.mem_of_getElem? h7.1.1) rfl, px_in (List.mem_of_getElem? h7.1.2) rfl, px_in (List.mem_of_getElem? h7.2) rfl⟩
theorem px_xkk {m i a : Nat} (h : px_xk m i a = true) : Cond.methodLink (px_R (px_o m)) i (px_xn a) ∈ px_gt ∧ 1 ≤ px_fr m ∧ 30 ≤ px_lo m := by
  unfold px_xk at h
  simp only [Bool.and_eq_true, List.any_eq_true, beq_iff_eq] at h
  obtain ⟨⟨⟨q, hq, ⟨h1, h2⟩, h3⟩, h5⟩, h6⟩ := h
  have h7 := List.all_eq_true.mp px_xl_k q hq
  have h8 := List.mem_of_getElem? (of_decide_eq_true h7)
  rw [h1, h2, h3] at h8
  exact ⟨px_in h8 rfl, Nat.le_of_ble_eq_true h5, Nat.le_of_ble_eq_true h6⟩
def px_nest : List Cond := lw_tbl.filter fun w => match w with
  | .methodLinkNest .. => true
  | _ => false
theorem px_jkk {m i : Nat} {k : px_K} (h : px_jk m i k = true) : k.2.2.1 < 116 ∧ k.2.2.2.1 = px_np k.2.2.1 ∧ px_fr k.2.2.1 + 1 ≤ px_fr m ∧ 8 + (px_ml k.2.2.1 + 11) + px_lo k.2.2.1 ≤ px_lo m ∧
    (Cond.methodLink (px_R (px_o m)) i (px_y k.2.2.1) ∈ px_gt ∨ Cond.methodLinkNest (px_R (px_o m)) i (px_y k.2.2.1) RX8 ∈ px_nest) := by
  unfold px_jk at h
  simp only [Bool.and_eq_true, List.any_eq_true, beq_iff_eq] at h
  obtain ⟨⟨⟨⟨⟨q, hq, ⟨⟨h1, h2⟩, h3⟩, h4⟩, h5⟩, h6⟩, h7⟩, h8⟩ := h
  have g7 := List.all_eq_true.mp px_jl_k q hq
  have g8 := List.mem_of_getElem? (of_decide_eq_true g7)
  rw [h1, h2, h3] at g8
  refine ⟨Nat.le_of_ble_eq_true h5, h6, Nat.le_of_ble_eq_true h7, by have := Nat.le_of_ble_eq_true h8; omega, ?_⟩
  split at g8
  · exact Or.inr (List.mem_filter.mpr ⟨g8, rfl⟩)
  · exact Or.inl (px_in g8 rfl)
theorem px_mkk {a : Nat} (ha : a < 116) : Cond.initialized (px_y a).cls ∈ px_gt ∧ ((px_ms a).2.1 = 1 → Cond.static (px_y a) ∈ px_gt) ∧ ((px_ms a).2.1 = 0 → Cond.instanceMethod (px_y a) ∈ px_gt) ∧ (((px_ms a).2.2.2.1 == 9999) = false → Cond.selects (px_y a).cls (px_y a) (px_y a) ∈ px_gt) ∧
    ((px_y a).cls ≠ "java/lang/invoke/MethodHandle" ∧ (px_y a).cls ≠ "java/lang/invoke/VarHandle" ∧ (parseMethodDescriptor (px_y a).desc).map (fun d => d.parameters.length) = some (px_np a)) ∧ plainName (px_y a).cls = true ∧ (px_y a).cls = px_R (px_o a) := by
  have h := List.all_eq_true.mp px_mk_k a (List.mem_range.mpr ha)
  unfold px_mk at h
  simp only [Bool.and_eq_true, decide_eq_true_eq] at h
  obtain ⟨⟨⟨⟨⟨⟨⟨h1, h2⟩, h3⟩, h4⟩, h5⟩, h6⟩, h7⟩, h8⟩ := h
  refine ⟨px_in (List.mem_of_getElem? h1) rfl, fun e => ?_, fun e => ?_, fun e => ?_, ⟨h5, h6, h4⟩, h7, h8⟩
  · rw [if_pos e] at h2
    exact px_in (List.mem_of_getElem? (of_decide_eq_true h2)) rfl
  · rw [if_neg (by rw [e]; decide)] at h2
    exact px_in (List.mem_of_getElem? (of_decide_eq_true h2)) rfl
  · rw [e] at h3
    simp only [Bool.false_or] at h3
    exact px_in (List.mem_of_getElem? (of_decide_eq_true h3)) rfl
def px_ws (a : Nat) : List Cond := Cond.code (px_y a) (px_c a) (px_ml a) (px_rt a) :: px_gt
theorem px_wsg {a : Nat} (ha : a < 116) : GoodIn px_gt (px_ws a) := by
  have hc : Cond.code (px_y a) (px_c a) (px_ml a) (px_rt a) ∈ px_gt := px_in (px_cwl a ha) rfl
  intro w hw
  have hw2 : w ∈ px_gt := by
    rcases List.mem_cons.mp hw with h | h
    · rw [h]; exact hc
    · exact h
  exact ⟨hw2, good_of_word (List.mem_filter.mp hw2).2⟩
