section PZ5
variable {p : Program} {l : Launch} {e : Env} {R : Room} {s : State} {m : MethodId} {args : Array Value} {below : List Frame} {meth : Method} {c : Code} {Q : State → Prop} {G : pz_D} {S : (Nat → Int32) × Nat} {mi n0 m0 : Nat} {pc : Nat} {L : pz_L} {st : List Value} {h : pz_H} {q : Nat × (pz_L × (List Value × pz_H))}
theorem pz_nf {pc' : Nat} {L' : pz_L} {st' : List Value} {h' : pz_H} {y : Option Value ⊕ (Nat × (List Value × List Value))} {P : Prop} (hs : pz_go pc' L' st' h' = some (.inr y)) : P := by
  unfold pz_go at hs
  cases hs
theorem pz_n_ild (i pc2 : Nat) {y : Option Value ⊕ (Nat × (List Value × List Value))} (hs : pz_ild i pc2 L st h = some (.inr y)) : False := by
  unfold pz_ild at hs
  split at hs
  · exact pz_nf hs
  · cases hs
theorem pz_n_lld (i pc2 : Nat) {y : Option Value ⊕ (Nat × (List Value × List Value))} (hs : pz_lld i pc2 L st h = some (.inr y)) : False := by
  unfold pz_lld at hs
  split at hs
  · exact pz_nf hs
  · cases hs
theorem pz_n_ald (i pc2 : Nat) {y : Option Value ⊕ (Nat × (List Value × List Value))} (hs : pz_ald i pc2 L st h = some (.inr y)) : False := by
  unfold pz_ald at hs
  split at hs
  · exact pz_nf hs
  · exact pz_nf hs
  · exact pz_nf hs
  · cases hs
theorem pz_n_ist (i pc2 : Nat) {y : Option Value ⊕ (Nat × (List Value × List Value))} (hs : pz_ist i pc2 L st h = some (.inr y)) : False := by
  unfold pz_ist at hs
  split at hs
  · obtain ⟨_, _, hs⟩ := Option.bind_eq_some_iff.mp hs
    exact pz_nf hs
  · cases hs
theorem pz_n_lst (i pc2 : Nat) {y : Option Value ⊕ (Nat × (List Value × List Value))} (hs : pz_lst i pc2 L st h = some (.inr y)) : False := by
  unfold pz_lst at hs
  split at hs
  · obtain ⟨_, _, hs⟩ := Option.bind_eq_some_iff.mp hs
    exact pz_nf hs
  · cases hs
theorem pz_n_ast (i pc2 : Nat) {y : Option Value ⊕ (Nat × (List Value × List Value))} (hs : pz_ast i pc2 L st h = some (.inr y)) : False := by
  unfold pz_ast at hs
  split at hs
  · obtain ⟨_, _, hs⟩ := Option.bind_eq_some_iff.mp hs
    exact pz_nf hs
  · obtain ⟨_, _, hs⟩ := Option.bind_eq_some_iff.mp hs
    exact pz_nf hs
  · cases hs
theorem pz_n_i2 (f : Int32 → Int32 → Option Int32) {y : Option Value ⊕ (Nat × (List Value × List Value))} (hs : pz_i2 f pc L st h = some (.inr y)) : False := by
  unfold pz_i2 at hs
  split at hs
  · obtain ⟨_, _, hs⟩ := Option.bind_eq_some_iff.mp hs
    exact pz_nf hs
  · cases hs
theorem pz_n_l2 (f : Int64 → Int64 → Option Int64) {y : Option Value ⊕ (Nat × (List Value × List Value))} (hs : pz_l2 f pc L st h = some (.inr y)) : False := by
  unfold pz_l2 at hs
  split at hs
  · obtain ⟨_, _, hs⟩ := Option.bind_eq_some_iff.mp hs
    exact pz_nf hs
  · cases hs
theorem pz_n_jp (off : Int) {y : Option Value ⊕ (Nat × (List Value × List Value))} (hs : pz_jp pc off L st h = some (.inr y)) : False := by
  unfold pz_jp at hs
  obtain ⟨_, _, hs⟩ := Option.bind_eq_some_iff.mp hs
  exact pz_nf hs
theorem pz_n_br (b : Bool) (off : Int) {y : Option Value ⊕ (Nat × (List Value × List Value))} (hs : pz_br b pc off L st h = some (.inr y)) : False := by
  unfold pz_br at hs
  obtain ⟨_, _, hs⟩ := Option.bind_eq_some_iff.mp hs
  split at hs
  · exact pz_nf hs
  · exact pz_nf hs
theorem pz_n_iald (S : (Nat → Int32) × Nat) {y : Option Value ⊕ (Nat × (List Value × List Value))} (hs : pz_iald S pc L st h = some (.inr y)) : False := by
  unfold pz_iald at hs
  split at hs
  · obtain ⟨_, _, hs⟩ := Option.bind_eq_some_iff.mp hs
    split at hs
    · exact pz_nf hs
    · cases hs
  · split at hs
    · exact pz_nf hs
    · cases hs
  · cases hs
theorem pz_n_iast  {y : Option Value ⊕ (Nat × (List Value × List Value))} (hs : pz_iast pc L st h = some (.inr y)) : False := by
  unfold pz_iast at hs
  split at hs
  · obtain ⟨_, _, hs⟩ := Option.bind_eq_some_iff.mp hs
    split at hs
    · exact pz_nf hs
    · cases hs
  · cases hs
theorem pz_n_aald  {y : Option Value ⊕ (Nat × (List Value × List Value))} (hs : pz_aald pc L st h = some (.inr y)) : False := by
  unfold pz_aald at hs
  split at hs
  · obtain ⟨_, _, hs⟩ := Option.bind_eq_some_iff.mp hs
    split at hs
    · exact pz_nf hs
    · cases hs
  · cases hs
theorem pz_n_aast  {y : Option Value ⊕ (Nat × (List Value × List Value))} (hs : pz_aast pc L st h = some (.inr y)) : False := by
  unfold pz_aast at hs
  split at hs
  · obtain ⟨_, _, hs⟩ := Option.bind_eq_some_iff.mp hs
    split at hs
    · exact pz_nf hs
    · cases hs
  · obtain ⟨_, _, hs⟩ := Option.bind_eq_some_iff.mp hs
    split at hs
    · exact pz_nf hs
    · cases hs
  · cases hs
theorem pz_n_alen (S : (Nat → Int32) × Nat) {y : Option Value ⊕ (Nat × (List Value × List Value))} (hs : pz_alen S pc L st h = some (.inr y)) : False := by
  unfold pz_alen at hs
  split at hs
  · obtain ⟨_, _, hs⟩ := Option.bind_eq_some_iff.mp hs
    exact pz_nf hs
  · exact pz_nf hs
  · cases hs
theorem pz_n_getf (a b : Nat) {y : Option Value ⊕ (Nat × (List Value × List Value))} (hs : pz_getf a b pc L st h = some (.inr y)) : False := by
  unfold pz_getf at hs
  split at hs
  · obtain ⟨_, _, hs⟩ := Option.bind_eq_some_iff.mp hs
    obtain ⟨_, _, hs⟩ := Option.bind_eq_some_iff.mp hs
    exact pz_nf hs
  · cases hs
theorem pz_n_putf (a b : Nat) {y : Option Value ⊕ (Nat × (List Value × List Value))} (hs : pz_putf a b pc L st h = some (.inr y)) : False := by
  unfold pz_putf at hs
  split at hs
  · obtain ⟨_, _, hs⟩ := Option.bind_eq_some_iff.mp hs
    split at hs
    · exact pz_nf hs
    · cases hs
  · cases hs
theorem pz_n_newa  {y : Option Value ⊕ (Nat × (List Value × List Value))} (hs : pz_newa pc L st h = some (.inr y)) : False := by
  unfold pz_newa at hs
  split at hs
  · split at hs
    · exact pz_nf hs
    · cases hs
  · cases hs
theorem pz_n_newq  {y : Option Value ⊕ (Nat × (List Value × List Value))} (hs : pz_newq pc L st h = some (.inr y)) : False := by
  unfold pz_newq at hs
  split at hs
  · split at hs
    · exact pz_nf hs
    · cases hs
  · cases hs
theorem pz_n_cpy  {y : Option Value ⊕ (Nat × (List Value × List Value))} (hs : pz_cpy pc L st h = some (.inr y)) : False := by
  unfold pz_cpy at hs
  split at hs
  · obtain ⟨_, _, hs⟩ := Option.bind_eq_some_iff.mp hs
    obtain ⟨_, _, hs⟩ := Option.bind_eq_some_iff.mp hs
    split at hs
    · exact pz_nf hs
    · cases hs
  · cases hs
theorem pz_n_mx (f : Int32 → Int32 → Int32) {y : Option Value ⊕ (Nat × (List Value × List Value))} (hs : pz_mx f pc L st h = some (.inr y)) : False := by
  unfold pz_mx at hs
  split at hs
  · split at hs
    · exact pz_nf hs
    · cases hs
  · cases hs
theorem pz_n_ret {rt : Option FieldType} {v : Value} {y : Nat × (List Value × List Value)} (hs : pz_ret rt v st = some (.inr (.inr y))) : False := by
  unfold pz_ret at hs
  split at hs
  · split at hs <;> cases hs
  · cases hs
theorem pz_n_step {rt : Option FieldType} {k : px_K} {y : Nat × (List Value × List Value)} (hs : pz_step S rt k pc L st h = some (.inr (.inr y))) : (∃ i, k.1 = .invokespecial i ∧ pz_isp k.2.2.1 k.2.2.2.1 pc L st h = some (.inr (.inr y))) ∨ (∃ i, k.1 = .invokevirtual i ∧ pz_ivi k.2.2.1 k.2.2.2.1 pc L st h = some (.inr (.inr y))) ∨ (∃ i, k.1 = .invokestatic i ∧ pz_ist_ k.2.2.1 k.2.2.2.1 pc L st h = some (.inr (.inr y))) := by
  unfold pz_step at hs
  split at hs
  · exact pz_nf hs
  · exact pz_nf hs
  · exact pz_nf hs
  · exact pz_nf hs
  · exact pz_nf hs
  · exact pz_nf hs
  · exact pz_nf hs
  · exact pz_nf hs
  · exact (pz_n_ild _ _ hs).elim
  · exact (pz_n_ild _ _ hs).elim
  · exact (pz_n_lld _ _ hs).elim
  · exact (pz_n_lld _ _ hs).elim
  · exact (pz_n_ald _ _ hs).elim
  · exact (pz_n_ald _ _ hs).elim
  · exact (pz_n_ist _ _ hs).elim
  · exact (pz_n_ist _ _ hs).elim
  · exact (pz_n_lst _ _ hs).elim
  · exact (pz_n_lst _ _ hs).elim
  · exact (pz_n_ast _ _ hs).elim
  · exact (pz_n_ast _ _ hs).elim
  · split at hs
    · obtain ⟨L2, h1, hs⟩ := Option.bind_eq_some_iff.mp hs
      exact pz_nf hs
    · cases hs
  · exact (pz_n_i2 _ hs).elim
  · exact (pz_n_i2 _ hs).elim
  · exact (pz_n_i2 _ hs).elim
  · exact (pz_n_i2 _ hs).elim
  · exact (pz_n_i2 _ hs).elim
  · exact (pz_n_i2 _ hs).elim
  · exact (pz_n_i2 _ hs).elim
  · exact (pz_n_i2 _ hs).elim
  · exact (pz_n_i2 _ hs).elim
  · exact (pz_n_i2 _ hs).elim
  · exact (pz_n_l2 _ hs).elim
  · exact (pz_n_l2 _ hs).elim
  · exact (pz_n_l2 _ hs).elim
  · exact (pz_n_l2 _ hs).elim
  · exact (pz_n_l2 _ hs).elim
  · split at hs
    · exact pz_nf hs
    · cases hs
  · split at hs
    · exact pz_nf hs
    · cases hs
  · split at hs
    · exact pz_nf hs
    · cases hs
  · split at hs
    · split at hs
      · exact pz_nf hs
      · cases hs
    · cases hs
  · split at hs
    · split at hs
      · exact pz_nf hs
      · cases hs
    · cases hs
  · exact (pz_n_jp _ hs).elim
  · split at hs
    · exact (pz_n_br _ _ hs).elim
    · cases hs
  · split at hs
    · exact (pz_n_br _ _ hs).elim
    · cases hs
  · split at hs
    · exact (pz_n_jp _ hs).elim
    · exact pz_nf hs
    · cases hs
  · split at hs
    · split at hs
      · exact (pz_n_jp _ hs).elim
      · cases hs
    · cases hs
  · split at hs
    · split at hs
      · exact (pz_n_jp _ hs).elim
      · obtain ⟨o, h1, hs⟩ := Option.bind_eq_some_iff.mp hs
        exact (pz_n_jp _ hs).elim
    · cases hs
  · exact (pz_n_iald _ hs).elim
  · exact (pz_n_iast hs).elim
  · exact (pz_n_aald hs).elim
  · exact (pz_n_aast hs).elim
  · exact (pz_n_alen _ hs).elim
  · exact (pz_n_getf _ _ hs).elim
  · exact (pz_n_putf _ _ hs).elim
  · exact pz_nf hs
  · exact (pz_n_newa hs).elim
  · exact (pz_n_newq hs).elim
  · split at hs
    · obtain ⟨o, h1, hs⟩ := Option.bind_eq_some_iff.mp hs
      exact pz_nf hs
    · cases hs
  · rename_i i hk
    exact Or.inl ⟨i, hk, hs⟩
  · rename_i i hk
    exact Or.inr (Or.inl ⟨i, hk, hs⟩)
  · rename_i i hk
    exact Or.inr (Or.inr ⟨i, hk, hs⟩)
  · split at hs
    · exact (pz_n_ret hs).elim
    · cases hs
  · split at hs
    · exact (pz_n_ret hs).elim
    · cases hs
  · split at hs
    · exact (pz_n_ret hs).elim
    · exact (pz_n_ret hs).elim
    · cases hs
  · split at hs <;> cases hs
  · cases hs
theorem px_kk {m i z t : Nat} {w : Int} (h : (px_kl.any fun q => q.1 == px_o m && q.2.1 == i && decide (q.2.2.1 = w) && q.2.2.2.1 == t) = true) : (t = 1 → Cond.constantLong (px_R (px_o m)) i (Int64.ofInt w) ∈ px_gt) ∧ (t = 0 → Cond.constant (px_R (px_o m)) i (Int32.ofInt w) ∈ px_gt) := by
  simp only [List.any_eq_true, Bool.and_eq_true, beq_iff_eq, decide_eq_true_eq] at h
  obtain ⟨q, hq, ⟨⟨h1, h2⟩, h3⟩, h4⟩ := h
  have h7 := List.mem_of_getElem? (of_decide_eq_true (List.all_eq_true.mp px_kl_k q hq))
  rw [h1, h2, h3, h4] at h7
  refine ⟨fun e => ?_, fun e => ?_⟩
  · rw [if_pos e] at h7; exact px_in h7 rfl
  · rw [if_neg (by omega)] at h7; exact px_in h7 rfl
set_option maxHeartbeats 4000000 in
theorem pz_sim1 (C : pz_Cx p R s m args meth c G S mi) {k : px_K} (hk : px_at mi pc = some k) (hs : pz_step S (px_rt mi) k pc L st h = some (.inl q)) (hr1 : q.2.2.2.2.1 ≤ n0 + R.cells) (hr2 : q.2.2.2.2.2 ≤ m0 + R.slots) (kk : pz_Go p l e R s m args below meth c Q G mi n0 m0 q) : pz_Go p l e R s m args below meth c Q G mi n0 m0 (pc, L, st, h) := by
  have hdg := px_dec hk
  have hln := px_len hk
  have hlk := px_lnk hk
  have hle := pz_m_step hs
  obtain ⟨⟨hx, hb, hml, hown⟩, hts, ⟨hK, hN, hCa, hAO⟩, ⟨hbs, hbz, hX⟩, ⟨hlk2, hnm, hrt⟩, hfr, hlo⟩ := id C
  obtain ⟨i, len, a, b, z⟩ := k
  unfold pz_step at hs
  dsimp only at hs hdg
  cases i with
  | iconst n =>
    have hl : len = 1 := by simpa [pz_ln] using hln
    subst hl
    obtain rfl := pz_gos hs
    intro H ls locs cells slots Z hc hs2
    exact lv_iconst hx hb hdg rfl (kk H ls locs cells slots Z hc hs2)
  | bipush n =>
    have hl : len = 2 := by simpa [pz_ln] using hln
    subst hl
    obtain rfl := pz_gos hs
    intro H ls locs cells slots Z hc hs2
    exact lv_bipush hx hb hdg rfl (kk H ls locs cells slots Z hc hs2)
  | sipush n =>
    have hl : len = 3 := by simpa [pz_ln] using hln
    subst hl
    obtain rfl := pz_gos hs
    intro H ls locs cells slots Z hc hs2
    exact lv_sipush hx hb hdg rfl (kk H ls locs cells slots Z hc hs2)
  | lconst n =>
    have hl : len = 1 := by simpa [pz_ln] using hln
    subst hl
    obtain rfl := pz_gos hs
    intro H ls locs cells slots Z hc hs2
    exact lv_lconst hx hb hdg rfl (kk H ls locs cells slots Z hc hs2)
  | ldc i =>
    have hl : len = 2 := by simpa [pz_ln] using hln
    subst hl
    obtain rfl := pz_gos hs
    intro H ls locs cells slots Z hc hs2
    exact lv_ldc hx hb hown (hts _ ((px_kk (z := 0) hlk).2 rfl)) hdg (kk H ls locs cells slots Z hc hs2)
  | ldc_w i =>
    have hl : len = 3 := by simpa [pz_ln] using hln
    subst hl
    obtain rfl := pz_gos hs
    intro H ls locs cells slots Z hc hs2
    exact lv_ldcw hx hb hown (hts _ ((px_kk (z := 0) hlk).2 rfl)) hdg (kk H ls locs cells slots Z hc hs2)
  | ldc2_w i =>
    have hl : len = 3 := by simpa [pz_ln] using hln
    subst hl
    obtain rfl := pz_gos hs
    intro H ls locs cells slots Z hc hs2
    exact lv_ldc2 hx hb hown (hts _ ((px_kk (z := 0) hlk).1 rfl)) hdg (kk H ls locs cells slots Z hc hs2)
  | aconst_null =>
    have hl : len = 1 := by simpa [pz_ln] using hln
    subst hl
    obtain rfl := pz_gos hs
    intro H ls locs cells slots Z hc hs2
    exact lv_null hx hb hdg (kk H ls locs cells slots Z hc hs2)
  | iload_n i =>
    have hl : len = 1 := by simpa [pz_ln] using hln
    subst hl
    exact pz_w_ild0 C hdg hs kk
  | iload i =>
    have hl : len = 2 := by simpa [pz_ln] using hln
    subst hl
    exact pz_w_ild1 C hdg hs kk
  | lload_n i =>
    have hl : len = 1 := by simpa [pz_ln] using hln
    subst hl
    exact pz_w_lld0 C hdg hs kk
  | lload i =>
    have hl : len = 2 := by simpa [pz_ln] using hln
    subst hl
    exact pz_w_lld1 C hdg hs kk
  | aload_n i =>
    have hl : len = 1 := by simpa [pz_ln] using hln
    subst hl
    exact pz_w_ald0 C hdg hs kk
  | aload i =>
    have hl : len = 2 := by simpa [pz_ln] using hln
    subst hl
    exact pz_w_ald1 C hdg hs kk
  | istore_n i =>
    have hl : len = 1 := by simpa [pz_ln] using hln
    subst hl
    exact pz_w_ist0 C hdg hs kk
  | istore i =>
    have hl : len = 2 := by simpa [pz_ln] using hln
    subst hl
    exact pz_w_ist1 C hdg hs kk
  | lstore_n i =>
    have hl : len = 1 := by simpa [pz_ln] using hln
    subst hl
    exact pz_w_lst0 C hdg hs kk
  | lstore i =>
    have hl : len = 2 := by simpa [pz_ln] using hln
    subst hl
    exact pz_w_lst1 C hdg hs kk
  | astore_n i =>
    have hl : len = 1 := by simpa [pz_ln] using hln
    subst hl
    exact pz_w_ast0 C hdg hs kk
  | astore i =>
    have hl : len = 2 := by simpa [pz_ln] using hln
    subst hl
    exact pz_w_ast1 C hdg hs kk
  | iinc i n =>
    have hl : len = 3 := by simpa [pz_ln] using hln
    subst hl
    dsimp only at hs
    split at hs
    · rename_i x hg
      obtain ⟨L1, h1, hs⟩ := Option.bind_eq_some_iff.mp hs
      exact pz_w_iinc C hdg hg h1 (pz_gos hs) kk
    · cases hs
  | iadd =>
    have hl : len = 1 := by simpa [pz_ln] using hln
    subst hl
    exact pz_w_iadd C hdg hs kk
  | isub =>
    have hl : len = 1 := by simpa [pz_ln] using hln
    subst hl
    exact pz_w_isub C hdg hs kk
  | imul =>
    have hl : len = 1 := by simpa [pz_ln] using hln
    subst hl
    exact pz_w_imul C hdg hs kk
  | iand =>
    have hl : len = 1 := by simpa [pz_ln] using hln
    subst hl
    exact pz_w_iand C hdg hs kk
  | ior =>
    have hl : len = 1 := by simpa [pz_ln] using hln
    subst hl
    exact pz_w_ior C hdg hs kk
  | ishl =>
    have hl : len = 1 := by simpa [pz_ln] using hln
    subst hl
    exact pz_w_ishl C hdg hs kk
  | ishr =>
    have hl : len = 1 := by simpa [pz_ln] using hln
    subst hl
    exact pz_w_ishr C hdg hs kk
  | iushr =>
    have hl : len = 1 := by simpa [pz_ln] using hln
    subst hl
    exact pz_w_iushr C hdg hs kk
  | idiv =>
    have hl : len = 1 := by simpa [pz_ln] using hln
    subst hl
    exact pz_w_idiv C hdg hs kk
  | irem =>
    have hl : len = 1 := by simpa [pz_ln] using hln
    subst hl
    exact pz_w_irem C hdg hs kk
  | ladd =>
    have hl : len = 1 := by simpa [pz_ln] using hln
    subst hl
    exact pz_w_ladd C hdg hs kk
  | lmul =>
    have hl : len = 1 := by simpa [pz_ln] using hln
    subst hl
    exact pz_w_lmul C hdg hs kk
  | land =>
    have hl : len = 1 := by simpa [pz_ln] using hln
    subst hl
    exact pz_w_land C hdg hs kk
  | ldiv =>
    have hl : len = 1 := by simpa [pz_ln] using hln
    subst hl
    exact pz_w_ldiv C hdg hs kk
  | lrem =>
    have hl : len = 1 := by simpa [pz_ln] using hln
    subst hl
    exact pz_w_lrem C hdg hs kk
  | lcmp =>
    have hl : len = 1 := by simpa [pz_ln] using hln
    subst hl
    dsimp only at hs
    split at hs
    · obtain rfl := pz_gos hs
      intro H ls locs cells slots Z hc hs2
      exact W.lcmp hx hb hdg (kk H ls locs cells slots Z hc hs2)
    · cases hs
  | i2l =>
    have hl : len = 1 := by simpa [pz_ln] using hln
    subst hl
    dsimp only at hs
    split at hs
    · obtain rfl := pz_gos hs
      intro H ls locs cells slots Z hc hs2
      exact lv_i2l hx hb hdg rfl (kk H ls locs cells slots Z hc hs2)
    · cases hs
  | l2i =>
    have hl : len = 1 := by simpa [pz_ln] using hln
    subst hl
    dsimp only at hs
    split at hs
    · obtain rfl := pz_gos hs
      intro H ls locs cells slots Z hc hs2
      exact lv_l2i hx hb hdg rfl (kk H ls locs cells slots Z hc hs2)
    · cases hs
  | dup =>
    have hl : len = 1 := by simpa [pz_ln] using hln
    subst hl
    dsimp only at hs
    split at hs
    · split at hs
      · rename_i hv
        obtain rfl := pz_gos hs
        intro H ls locs cells slots Z hc hs2
        exact lv_dup hx hb hdg (by rw [pz_vc]; exact hv) (kk H ls locs cells slots Z hc hs2)
      · cases hs
    · cases hs
  | dup2 =>
    have hl : len = 1 := by simpa [pz_ln] using hln
    subst hl
    dsimp only at hs
    split at hs
    · split at hs
      · rename_i hv
        obtain rfl := pz_gos hs
        intro H ls locs cells slots Z hc hs2
        exact lv_dup2_11 hx hb hdg (by rw [pz_vc]; exact hv.1) (by rw [pz_vc]; exact hv.2) (kk H ls locs cells slots Z hc hs2)
      · cases hs
    · cases hs
  | goto off =>
    have hl : len = 3 := by simpa [pz_ln] using hln
    subst hl
    exact pz_w_goto C hdg hs kk
  | ifCond cc off =>
    have hl : len = 3 := by simpa [pz_ln] using hln
    subst hl
    dsimp only at hs
    split at hs
    · cases cc with
      | eq => exact pz_w_if_eq C hdg hs kk
      | ne => exact pz_w_if_ne C hdg hs kk
      | lt => exact pz_w_if_lt C hdg hs kk
      | ge => exact pz_w_if_ge C hdg hs kk
      | gt => exact pz_w_if_gt C hdg hs kk
      | le => exact pz_w_if_le C hdg hs kk
    · cases hs
  | if_icmp cc off =>
    have hl : len = 3 := by simpa [pz_ln] using hln
    subst hl
    dsimp only at hs
    split at hs
    · cases cc with
      | eq => exact pz_w_icmp_eq C hdg hs kk
      | ne => exact pz_w_icmp_ne C hdg hs kk
      | lt => exact pz_w_icmp_lt C hdg hs kk
      | ge => exact pz_w_icmp_ge C hdg hs kk
      | gt => exact pz_w_icmp_gt C hdg hs kk
      | le => exact pz_w_icmp_le C hdg hs kk
    · cases hs
  | ifnonnull off =>
    have hl : len = 3 := by simpa [pz_ln] using hln
    subst hl
    dsimp only at hs
    split at hs
    · obtain ⟨t, ht, rfl⟩ := pz_jps hs
      intro H ls locs cells slots Z hc hs2
      exact lv_ifnonnull hx hb hdg ht (kk H ls locs cells slots Z hc hs2)
    · obtain rfl := pz_gos hs
      intro H ls locs cells slots Z hc hs2
      exact lv_ifnonnullN hx hb hdg (kk H ls locs cells slots Z hc hs2)
    · cases hs
  | lookupswitch d ps =>
    dsimp only at hs
    split at hs
    · split at hs
      · rename_i hp
        obtain ⟨t, ht, rfl⟩ := pz_jps hs
        intro H ls locs cells slots Z hc hs2
        exact lv_lookup hx hb hdg hp rfl ht (kk H ls locs cells slots Z hc hs2)
      · cases hs
    · cases hs
  | tableswitch d lo hi offs =>
    dsimp only at hs
    split at hs
    · split at hs
      · rename_i hp
        obtain ⟨t, ht, rfl⟩ := pz_jps hs
        intro H ls locs cells slots Z hc hs2
        exact lv_tableOut hx hb hdg hp ht (kk H ls locs cells slots Z hc hs2)
      · rename_i hp
        obtain ⟨o, ho, hs⟩ := Option.bind_eq_some_iff.mp hs
        obtain ⟨t, ht, rfl⟩ := pz_jps hs
        intro H ls locs cells slots Z hc hs2
        exact lv_tableIn hx hb hdg (fun z => hp (Or.inl z)) (fun z => hp (Or.inr z)) ho ht (kk H ls locs cells slots Z hc hs2)
    · cases hs
  | iaload =>
    have hl : len = 1 := by simpa [pz_ln] using hln
    subst hl
    exact pz_w_iald C hdg hs kk
  | iastore =>
    have hl : len = 1 := by simpa [pz_ln] using hln
    subst hl
    exact pz_w_iast C hdg hs kk
  | aaload =>
    have hl : len = 1 := by simpa [pz_ln] using hln
    subst hl
    exact pz_w_aald C hdg hs kk
  | aastore =>
    have hl : len = 1 := by simpa [pz_ln] using hln
    subst hl
    exact pz_w_aast C hdg hs kk
  | arraylength =>
    have hl : len = 1 := by simpa [pz_ln] using hln
    subst hl
    exact pz_w_alen C hdg hs kk
  | getfield i =>
    have hl : len = 3 := by simpa [pz_ln] using hln
    subst hl
    exact pz_w_getf C hlk hdg hs kk
  | putfield i =>
    have hl : len = 3 := by simpa [pz_ln] using hln
    subst hl
    have hk2 : (px_fk mi i a b && (!(px_T a b).2.2.2 || (decide ((px_y mi).name = "<init>") && decide ((px_T a b).1 = px_R (px_o mi))))) = true := hlk
    rw [Bool.and_eq_true] at hk2
    exact pz_w_putf C hk2.1 hk2.2 hdg hs kk
  | new i =>
    have hl : len = 3 := by simpa [pz_ln] using hln
    subst hl
    have hk2 : (px_nk mi i a && b == px_N a) = true := hlk
    rw [Bool.and_eq_true] at hk2
    exact pz_w_new C hk2.1 hdg hs hr1 hr2 kk
  | newarray t =>
    cases t with
    | int =>
      have hl : len = 2 := by simpa [pz_ln] using hln
      subst hl
      exact pz_w_newa C hdg hs hr1 hr2 kk
    | _ => cases hs
  | anewarray i =>
    have hl : len = 3 := by simpa [pz_ln] using hln
    subst hl
    exact pz_w_newq C hlk hdg hs hr1 hr2 kk
  | checkcast i =>
    have hl : len = 3 := by simpa [pz_ln] using hln
    subst hl
    dsimp only at hs
    split at hs
    · exact pz_w_cast C hlk hdg hs kk
    · cases hs
  | invokespecial i =>
    have hl : len = 3 := by simpa [pz_ln] using hln
    subst hl
    have hs' : pz_isp a b pc L st h = some (.inl q) := hs
    unfold pz_isp at hs'
    by_cases ha : a = 1000
    · rw [if_pos ha] at hs'
      have hk2 : (if a = 1000 then px_xk mi i 1000 else px_jk mi i (.invokespecial i, 3, a, b, z) && (px_ms a).2.1 == 0 && decide ((px_y a).name = "<init>") && decide (px_rt a = none)) = true := hlk
      rw [if_pos ha] at hk2
      split at hs'
      · exact pz_w_obj C hk2 hdg hs' kk
      · cases hs'
    · rw [if_neg ha] at hs'
      split at hs'
      · exact (pz_m_call hs').elim
      · cases hs'
  | invokevirtual i =>
    have hl : len = 3 := by simpa [pz_ln] using hln
    subst hl
    have hs' : pz_ivi a b pc L st h = some (.inl q) := hs
    unfold pz_ivi at hs'
    by_cases ha : a = 1002
    · rw [if_pos ha] at hs'
      have hk2 : (if a = 1002 then px_xk mi i 1002 else px_jk mi i (.invokevirtual i, 3, a, b, z) && (px_ms a).2.1 == 0 && !((px_ms a).2.2.2.1 == 9999) && Nat.blt (px_o a) 10) = true := hlk
      rw [if_pos ha] at hk2
      split at hs'
      · exact pz_w_clone C hk2 hdg hs' hr1 hr2 kk
      · cases hs'
    · rw [if_neg ha] at hs'
      split at hs'
      · split at hs'
        · exact (pz_m_call hs').elim
        · cases hs'
      · cases hs'
  | invokestatic i =>
    have hl : len = 3 := by simpa [pz_ln] using hln
    subst hl
    have hs' : pz_ist_ a b pc L st h = some (.inl q) := hs
    unfold pz_ist_ at hs'
    have hk2 : (if a = 1001 then px_xk mi i 1001 else if a = 1003 then px_xk mi i 1003 else if a = 1004 then px_xk mi i 1004 else px_jk mi i (.invokestatic i, 3, a, b, z) && (px_ms a).2.1 == 1) = true := hlk
    have g1 : h.2.1 ≤ n0 + R.cells := Nat.le_trans hle.1 hr1
    have g2 : h.2.2 ≤ m0 + R.slots := Nat.le_trans hle.2 hr2
    by_cases ha : a = 1001
    · rw [if_pos ha] at hs' hk2
      exact pz_w_cpy C hk2 hdg hs' kk
    · rw [if_neg ha] at hs' hk2
      by_cases ha : a = 1003
      · rw [if_pos ha] at hs' hk2
        exact pz_w_max C hk2 hdg hs' g1 g2 kk
      · rw [if_neg ha] at hs' hk2
        by_cases ha : a = 1004
        · rw [if_pos ha] at hs' hk2
          exact pz_w_min C hk2 hdg hs' g1 g2 kk
        · rw [if_neg ha] at hs' hk2
          exact (pz_m_call hs').elim
  | ireturn =>
    have hl : len = 1 := by simpa [pz_ln] using hln
    subst hl
    dsimp only at hs
    split at hs
    · exact (pz_m_ret hs).elim
    · cases hs
  | lreturn =>
    have hl : len = 1 := by simpa [pz_ln] using hln
    subst hl
    dsimp only at hs
    split at hs
    · exact (pz_m_ret hs).elim
    · cases hs
  | areturn =>
    have hl : len = 1 := by simpa [pz_ln] using hln
    subst hl
    dsimp only at hs
    split at hs
    · exact (pz_m_ret hs).elim
    · exact (pz_m_ret hs).elim
    · cases hs
  | return_ =>
    have hl : len = 1 := by simpa [pz_ln] using hln
    subst hl
    dsimp only at hs
    split at hs <;> cases hs
  | _ => cases hs
end PZ5
