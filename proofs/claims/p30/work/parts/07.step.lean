/-! ## one instruction of ours is one of the machine's -/
def pz_U (G : pz_D) (U : State) : Prop := va_K G.1 px_cl [(G.2.2.1, .int), (G.2.2.2, .object RX3)] U ∧ (∀ w ∈ px_nest, va_Nw w U) ∧ va_Nw (.castable "[I" "java/lang/Cloneable") U ∧ va_AO RX3 U
def pz_B (G : pz_D) (S : (Nat → Int32) × Nat) (U : State) : Prop := G.2.1.2 < G.2.1.1 ∧ G.2.1.1 ≤ U.heap.size ∧ va_X G.2.1.2 S.2 S.1 U U.heap
def pz_Cx (p : Program) (R : Room) (s : State) (m : MethodId) (args : Array Value) (meth : Method) (c : Code) (G : pz_D) (S : (Nat → Int32) × Nat) (mi : Nat) : Prop :=
  (p.tables.exec = Jvm.exec ∧ c.code = px_c mi ∧ c.maxLocals = px_ml mi ∧ s.vm.findClass (px_R (px_o mi)) = some m.cls) ∧ (∀ w ∈ px_gt, w.before args s = true) ∧ pz_U G s ∧ pz_B G S s ∧ (meth.locks = false ∧ ((px_y mi).name = "<init>" → meth.name = "<init>") ∧ meth.sig.returnType = px_rt mi) ∧ (px_fr mi ≤ R.frames ∧ px_lo mi ≤ R.locals)
def pz_Z (G : pz_D) (s : State) (mi : Nat) (h : pz_H) (H : Heap) (L : pz_L) (ls : Array Slot) (locs : List Loc) : Prop :=
  pz_R G h H ∧ (∀ q : Nat, q < G.2.1.1 → H[q]? = s.heap[q]?) ∧ pz_Lr G L ls (px_ml mi) ∧ ∀ q ∈ locs, G.2.1.1 ≤ q.base
def pz_Go (p : Program) (l : Launch) (e : Env) (R : Room) (s : State) (m : MethodId) (args : Array Value) (below : List Frame) (meth : Method) (c : Code) (Q : State → Prop) (G : pz_D) (mi n0 m0 : Nat) (q : Nat × (pz_L × (List Value × pz_H))) : Prop :=
  ∀ (H : Heap) (ls : Array Slot) (locs : List Loc) (cells slots : Nat), pz_Z G s mi q.2.2.2 H q.2.1 ls locs → n0 + cells = q.2.2.2.2.1 → m0 + slots = q.2.2.2.2.2 → W p l e R s m args below meth c H locs cells slots Q (F0 m q.1 ls (q.2.2.1.map (pz_v G.2.1.1 G.2.1.2)))
section PZ
variable {p : Program} {l : Launch} {e : Env} {R : Room} {s : State} {m : MethodId} {args : Array Value} {below : List Frame} {meth : Method} {c : Code} {Q : State → Prop} {G : pz_D} {S : (Nat → Int32) × Nat} {mi n0 m0 : Nat} {pc : Nat} {L : pz_L} {st : List Value} {h : pz_H} {q : Nat × (pz_L × (List Value × pz_H))}
theorem pz_gos {pc' : Nat} {L' : pz_L} {st' : List Value} {h' : pz_H} (hs : pz_go pc' L' st' h' = some (.inl q)) : q = (pc', L', st', h') := by
  unfold pz_go at hs
  cases hs
  rfl

theorem pz_w_ild0 (C : pz_Cx p R s m args meth c G S mi) {k : Fin 4} (hdg : decode (px_c mi) pc = .ok (.iload_n k, 1)) (hs : pz_ild (k : Nat) (pc + 1) L st h = some (.inl q)) (kk : pz_Go p l e R s m args below meth c Q G mi n0 m0 q) : pz_Go p l e R s m args below meth c Q G mi n0 m0 (pc, L, st, h) := by
  obtain ⟨⟨hx, hb, hml, hown⟩, hts, ⟨hK, hN, hCa, hAO⟩, ⟨hbs, hbz, hX⟩, ⟨hlk, hnm, hrt⟩, hfr, hlo⟩ := C
  unfold pz_ild at hs
  split at hs
  · rename_i x hg
    obtain rfl := pz_gos hs
    intro H ls locs cells slots Z hc hs2
    exact lv_iload_n hx hb hdg rfl (Z.2.2.1.2.2.2 _ _ hg) (kk H ls locs cells slots Z hc hs2)
  · cases hs
theorem pz_w_ild1 (C : pz_Cx p R s m args meth c G S mi) {i : Nat} (hdg : decode (px_c mi) pc = .ok (.iload i, 2)) (hs : pz_ild i (pc + 2) L st h = some (.inl q)) (kk : pz_Go p l e R s m args below meth c Q G mi n0 m0 q) : pz_Go p l e R s m args below meth c Q G mi n0 m0 (pc, L, st, h) := by
  obtain ⟨⟨hx, hb, hml, hown⟩, hts, ⟨hK, hN, hCa, hAO⟩, ⟨hbs, hbz, hX⟩, ⟨hlk, hnm, hrt⟩, hfr, hlo⟩ := C
  unfold pz_ild at hs
  split at hs
  · rename_i x hg
    obtain rfl := pz_gos hs
    intro H ls locs cells slots Z hc hs2
    exact lv_iload hx hb hdg (Z.2.2.1.2.2.2 _ _ hg) (kk H ls locs cells slots Z hc hs2)
  · cases hs
theorem pz_w_lld0 (C : pz_Cx p R s m args meth c G S mi) {k : Fin 4} (hdg : decode (px_c mi) pc = .ok (.lload_n k, 1)) (hs : pz_lld (k : Nat) (pc + 1) L st h = some (.inl q)) (kk : pz_Go p l e R s m args below meth c Q G mi n0 m0 q) : pz_Go p l e R s m args below meth c Q G mi n0 m0 (pc, L, st, h) := by
  obtain ⟨⟨hx, hb, hml, hown⟩, hts, ⟨hK, hN, hCa, hAO⟩, ⟨hbs, hbz, hX⟩, ⟨hlk, hnm, hrt⟩, hfr, hlo⟩ := C
  unfold pz_lld at hs
  split at hs
  · rename_i x hg
    obtain rfl := pz_gos hs
    intro H ls locs cells slots Z hc hs2
    exact lv_lload_n hx hb hdg rfl (Z.2.2.1.2.2.2 _ _ hg) (kk H ls locs cells slots Z hc hs2)
  · cases hs
theorem pz_w_lld1 (C : pz_Cx p R s m args meth c G S mi) {i : Nat} (hdg : decode (px_c mi) pc = .ok (.lload i, 2)) (hs : pz_lld i (pc + 2) L st h = some (.inl q)) (kk : pz_Go p l e R s m args below meth c Q G mi n0 m0 q) : pz_Go p l e R s m args below meth c Q G mi n0 m0 (pc, L, st, h) := by
  obtain ⟨⟨hx, hb, hml, hown⟩, hts, ⟨hK, hN, hCa, hAO⟩, ⟨hbs, hbz, hX⟩, ⟨hlk, hnm, hrt⟩, hfr, hlo⟩ := C
  unfold pz_lld at hs
  split at hs
  · rename_i x hg
    obtain rfl := pz_gos hs
    intro H ls locs cells slots Z hc hs2
    exact lv_lload hx hb hdg (Z.2.2.1.2.2.2 _ _ hg) (kk H ls locs cells slots Z hc hs2)
  · cases hs
theorem pz_w_ald0 (C : pz_Cx p R s m args meth c G S mi) {k : Fin 4} (hdg : decode (px_c mi) pc = .ok (.aload_n k, 1)) (hs : pz_ald (k : Nat) (pc + 1) L st h = some (.inl q)) (kk : pz_Go p l e R s m args below meth c Q G mi n0 m0 q) : pz_Go p l e R s m args below meth c Q G mi n0 m0 (pc, L, st, h) := by
  obtain ⟨⟨hx, hb, hml, hown⟩, hts, ⟨hK, hN, hCa, hAO⟩, ⟨hbs, hbz, hX⟩, ⟨hlk, hnm, hrt⟩, hfr, hlo⟩ := C
  unfold pz_ald at hs
  split at hs
  · rename_i x hg
    obtain rfl := pz_gos hs
    intro H ls locs cells slots Z hc hs2
    exact lv_aload_n hx hb hdg rfl (Z.2.2.1.2.2.2 _ _ hg) (kk H ls locs cells slots Z hc hs2)
  · rename_i hg
    obtain rfl := pz_gos hs
    intro H ls locs cells slots Z hc hs2
    exact lv_aload_nN hx hb hdg rfl (Z.2.2.1.2.2.2 _ _ hg) (kk H ls locs cells slots Z hc hs2)
  · rename_i x hg
    obtain rfl := pz_gos hs
    intro H ls locs cells slots Z hc hs2
    exact lv_aload_n hx hb hdg rfl (Z.2.2.1.2.2.2 _ _ hg) (kk H ls locs cells slots Z hc hs2)
  · cases hs
theorem pz_w_ald1 (C : pz_Cx p R s m args meth c G S mi) {i : Nat} (hdg : decode (px_c mi) pc = .ok (.aload i, 2)) (hs : pz_ald i (pc + 2) L st h = some (.inl q)) (kk : pz_Go p l e R s m args below meth c Q G mi n0 m0 q) : pz_Go p l e R s m args below meth c Q G mi n0 m0 (pc, L, st, h) := by
  obtain ⟨⟨hx, hb, hml, hown⟩, hts, ⟨hK, hN, hCa, hAO⟩, ⟨hbs, hbz, hX⟩, ⟨hlk, hnm, hrt⟩, hfr, hlo⟩ := C
  unfold pz_ald at hs
  split at hs
  · rename_i x hg
    obtain rfl := pz_gos hs
    intro H ls locs cells slots Z hc hs2
    exact lv_aload hx hb hdg (Z.2.2.1.2.2.2 _ _ hg) (kk H ls locs cells slots Z hc hs2)
  · rename_i hg
    obtain rfl := pz_gos hs
    intro H ls locs cells slots Z hc hs2
    exact lv_aloadN hx hb hdg (Z.2.2.1.2.2.2 _ _ hg) (kk H ls locs cells slots Z hc hs2)
  · rename_i x hg
    obtain rfl := pz_gos hs
    intro H ls locs cells slots Z hc hs2
    exact lv_aload hx hb hdg (Z.2.2.1.2.2.2 _ _ hg) (kk H ls locs cells slots Z hc hs2)
  · cases hs
theorem pz_w_ist0 (C : pz_Cx p R s m args meth c G S mi) {k : Fin 4} (hdg : decode (px_c mi) pc = .ok (.istore_n k, 1)) (hs : pz_ist (k : Nat) (pc + 1) L st h = some (.inl q)) (kk : pz_Go p l e R s m args below meth c Q G mi n0 m0 q) : pz_Go p l e R s m args below meth c Q G mi n0 m0 (pc, L, st, h) := by
  obtain ⟨⟨hx, hb, hml, hown⟩, hts, ⟨hK, hN, hCa, hAO⟩, ⟨hbs, hbz, hX⟩, ⟨hlk, hnm, hrt⟩, hfr, hlo⟩ := C
  unfold pz_ist at hs
  split at hs
  · rename_i x r
    obtain ⟨L', h1, h2⟩ := Option.bind_eq_some_iff.mp hs
    obtain rfl := pz_gos h2
    intro H ls locs cells slots Z hc hs2
    refine lv_istore_n hx hb hdg rfl Z.2.2.1.has (by have := (pz_s1_spec h1).1; rw [Z.2.2.1.1] at this; exact this) rfl (fun ls' hl => kk H ls' locs cells slots ⟨Z.1, Z.2.1, pz_st1 Z.2.2.1 h1 hl, Z.2.2.2⟩ hc hs2)
  · cases hs
theorem pz_w_ist1 (C : pz_Cx p R s m args meth c G S mi) {i : Nat} (hdg : decode (px_c mi) pc = .ok (.istore i, 2)) (hs : pz_ist i (pc + 2) L st h = some (.inl q)) (kk : pz_Go p l e R s m args below meth c Q G mi n0 m0 q) : pz_Go p l e R s m args below meth c Q G mi n0 m0 (pc, L, st, h) := by
  obtain ⟨⟨hx, hb, hml, hown⟩, hts, ⟨hK, hN, hCa, hAO⟩, ⟨hbs, hbz, hX⟩, ⟨hlk, hnm, hrt⟩, hfr, hlo⟩ := C
  unfold pz_ist at hs
  split at hs
  · rename_i x r
    obtain ⟨L', h1, h2⟩ := Option.bind_eq_some_iff.mp hs
    obtain rfl := pz_gos h2
    intro H ls locs cells slots Z hc hs2
    refine lv_istore hx hb hdg Z.2.2.1.has (by have := (pz_s1_spec h1).1; rw [Z.2.2.1.1] at this; exact this) rfl (fun ls' hl => kk H ls' locs cells slots ⟨Z.1, Z.2.1, pz_st1 Z.2.2.1 h1 hl, Z.2.2.2⟩ hc hs2)
  · cases hs
theorem pz_w_lst0 (C : pz_Cx p R s m args meth c G S mi) {k : Fin 4} (hdg : decode (px_c mi) pc = .ok (.lstore_n k, 1)) (hs : pz_lst (k : Nat) (pc + 1) L st h = some (.inl q)) (kk : pz_Go p l e R s m args below meth c Q G mi n0 m0 q) : pz_Go p l e R s m args below meth c Q G mi n0 m0 (pc, L, st, h) := by
  obtain ⟨⟨hx, hb, hml, hown⟩, hts, ⟨hK, hN, hCa, hAO⟩, ⟨hbs, hbz, hX⟩, ⟨hlk, hnm, hrt⟩, hfr, hlo⟩ := C
  unfold pz_lst at hs
  split at hs
  · rename_i x r
    obtain ⟨L', h1, h2⟩ := Option.bind_eq_some_iff.mp hs
    obtain rfl := pz_gos h2
    intro H ls locs cells slots Z hc hs2
    refine lv_lstore_n hx hb hdg rfl Z.2.2.1.has (by have := (pz_s2_spec h1).1; rw [Z.2.2.1.1] at this; exact this) rfl (fun ls' hl => kk H ls' locs cells slots ⟨Z.1, Z.2.1, pz_st2 Z.2.2.1 h1 hl, Z.2.2.2⟩ hc hs2)
  · cases hs
theorem pz_w_lst1 (C : pz_Cx p R s m args meth c G S mi) {i : Nat} (hdg : decode (px_c mi) pc = .ok (.lstore i, 2)) (hs : pz_lst i (pc + 2) L st h = some (.inl q)) (kk : pz_Go p l e R s m args below meth c Q G mi n0 m0 q) : pz_Go p l e R s m args below meth c Q G mi n0 m0 (pc, L, st, h) := by
  obtain ⟨⟨hx, hb, hml, hown⟩, hts, ⟨hK, hN, hCa, hAO⟩, ⟨hbs, hbz, hX⟩, ⟨hlk, hnm, hrt⟩, hfr, hlo⟩ := C
  unfold pz_lst at hs
  split at hs
  · rename_i x r
    obtain ⟨L', h1, h2⟩ := Option.bind_eq_some_iff.mp hs
    obtain rfl := pz_gos h2
    intro H ls locs cells slots Z hc hs2
    refine lv_lstore hx hb hdg Z.2.2.1.has (by have := (pz_s2_spec h1).1; rw [Z.2.2.1.1] at this; exact this) rfl (fun ls' hl => kk H ls' locs cells slots ⟨Z.1, Z.2.1, pz_st2 Z.2.2.1 h1 hl, Z.2.2.2⟩ hc hs2)
  · cases hs
theorem pz_w_ast0 (C : pz_Cx p R s m args meth c G S mi) {k : Fin 4} (hdg : decode (px_c mi) pc = .ok (.astore_n k, 1)) (hs : pz_ast (k : Nat) (pc + 1) L st h = some (.inl q)) (kk : pz_Go p l e R s m args below meth c Q G mi n0 m0 q) : pz_Go p l e R s m args below meth c Q G mi n0 m0 (pc, L, st, h) := by
  obtain ⟨⟨hx, hb, hml, hown⟩, hts, ⟨hK, hN, hCa, hAO⟩, ⟨hbs, hbz, hX⟩, ⟨hlk, hnm, hrt⟩, hfr, hlo⟩ := C
  unfold pz_ast at hs
  split at hs
  · rename_i x r
    obtain ⟨L', h1, h2⟩ := Option.bind_eq_some_iff.mp hs
    obtain rfl := pz_gos h2
    intro H ls locs cells slots Z hc hs2
    refine lv_astore_n hx hb hdg rfl Z.2.2.1.has (by have := (pz_s1_spec h1).1; rw [Z.2.2.1.1] at this; exact this) rfl (fun ls' hl => kk H ls' locs cells slots ⟨Z.1, Z.2.1, pz_st1 Z.2.2.1 h1 hl, Z.2.2.2⟩ hc hs2)
  · rename_i r
    obtain ⟨L', h1, h2⟩ := Option.bind_eq_some_iff.mp hs
    obtain rfl := pz_gos h2
    intro H ls locs cells slots Z hc hs2
    refine lv_astore_nN hx hb hdg rfl Z.2.2.1.has (by have := (pz_s1_spec h1).1; rw [Z.2.2.1.1] at this; exact this) rfl (fun ls' hl => kk H ls' locs cells slots ⟨Z.1, Z.2.1, pz_st1 Z.2.2.1 h1 hl, Z.2.2.2⟩ hc hs2)
  · cases hs
theorem pz_w_ast1 (C : pz_Cx p R s m args meth c G S mi) {i : Nat} (hdg : decode (px_c mi) pc = .ok (.astore i, 2)) (hs : pz_ast i (pc + 2) L st h = some (.inl q)) (kk : pz_Go p l e R s m args below meth c Q G mi n0 m0 q) : pz_Go p l e R s m args below meth c Q G mi n0 m0 (pc, L, st, h) := by
  obtain ⟨⟨hx, hb, hml, hown⟩, hts, ⟨hK, hN, hCa, hAO⟩, ⟨hbs, hbz, hX⟩, ⟨hlk, hnm, hrt⟩, hfr, hlo⟩ := C
  unfold pz_ast at hs
  split at hs
  · rename_i x r
    obtain ⟨L', h1, h2⟩ := Option.bind_eq_some_iff.mp hs
    obtain rfl := pz_gos h2
    intro H ls locs cells slots Z hc hs2
    refine lv_astore hx hb hdg Z.2.2.1.has (by have := (pz_s1_spec h1).1; rw [Z.2.2.1.1] at this; exact this) rfl (fun ls' hl => kk H ls' locs cells slots ⟨Z.1, Z.2.1, pz_st1 Z.2.2.1 h1 hl, Z.2.2.2⟩ hc hs2)
  · rename_i r
    obtain ⟨L', h1, h2⟩ := Option.bind_eq_some_iff.mp hs
    obtain rfl := pz_gos h2
    intro H ls locs cells slots Z hc hs2
    refine lv_astoreN hx hb hdg Z.2.2.1.has (by have := (pz_s1_spec h1).1; rw [Z.2.2.1.1] at this; exact this) rfl (fun ls' hl => kk H ls' locs cells slots ⟨Z.1, Z.2.1, pz_st1 Z.2.2.1 h1 hl, Z.2.2.2⟩ hc hs2)
  · cases hs
theorem pz_w_iinc (C : pz_Cx p R s m args meth c G S mi) {i : Nat} {n : Int} {x : Int32} {L1 : pz_L} (hdg : decode (px_c mi) pc = .ok (.iinc i n, 3)) (hg : pz_get L i = some (.int x)) (h1 : pz_s1 L i (.int (x + Int32.ofInt n)) = some L1) (hq : q = (pc + 3, L1, st, h)) (kk : pz_Go p l e R s m args below meth c Q G mi n0 m0 q) : pz_Go p l e R s m args below meth c Q G mi n0 m0 (pc, L, st, h) := by
  obtain ⟨⟨hx, hb, hml, hown⟩, hts, ⟨hK, hN, hCa, hAO⟩, ⟨hbs, hbz, hX⟩, ⟨hlk, hnm, hrt⟩, hfr, hlo⟩ := C
  subst hq
  intro H ls locs cells slots Z hc hs2
  obtain ⟨k, hk⟩ := List.getElem?_of_mem (pz_as_mem (G := G) hg)
  exact lv_iinc hx hb hdg Z.2.2.1.has hk rfl (by have := (pz_s1_spec h1).1; rw [Z.2.2.1.1] at this; exact this) rfl (fun ls' hl => kk H ls' locs cells slots ⟨Z.1, Z.2.1, pz_st1 Z.2.2.1 h1 hl, Z.2.2.2⟩ hc hs2)
theorem pz_w_iadd (C : pz_Cx p R s m args meth c G S mi) (hdg : decode (px_c mi) pc = .ok (.iadd, 1)) (hs : pz_i2 (fun x y => some (x + y)) pc L st h = some (.inl q)) (kk : pz_Go p l e R s m args below meth c Q G mi n0 m0 q) : pz_Go p l e R s m args below meth c Q G mi n0 m0 (pc, L, st, h) := by
  obtain ⟨⟨hx, hb, hml, hown⟩, hts, ⟨hK, hN, hCa, hAO⟩, ⟨hbs, hbz, hX⟩, ⟨hlk, hnm, hrt⟩, hfr, hlo⟩ := C
  unfold pz_i2 at hs
  split at hs
  · rename_i y x r
    obtain rfl := pz_gos hs
    intro H ls locs cells slots Z hc hs2
    exact lv_iadd hx hb hdg (kk H ls locs cells slots Z hc hs2)
  · cases hs
theorem pz_w_isub (C : pz_Cx p R s m args meth c G S mi) (hdg : decode (px_c mi) pc = .ok (.isub, 1)) (hs : pz_i2 (fun x y => some (x - y)) pc L st h = some (.inl q)) (kk : pz_Go p l e R s m args below meth c Q G mi n0 m0 q) : pz_Go p l e R s m args below meth c Q G mi n0 m0 (pc, L, st, h) := by
  obtain ⟨⟨hx, hb, hml, hown⟩, hts, ⟨hK, hN, hCa, hAO⟩, ⟨hbs, hbz, hX⟩, ⟨hlk, hnm, hrt⟩, hfr, hlo⟩ := C
  unfold pz_i2 at hs
  split at hs
  · rename_i y x r
    obtain rfl := pz_gos hs
    intro H ls locs cells slots Z hc hs2
    exact lv_isub hx hb hdg (kk H ls locs cells slots Z hc hs2)
  · cases hs
theorem pz_w_imul (C : pz_Cx p R s m args meth c G S mi) (hdg : decode (px_c mi) pc = .ok (.imul, 1)) (hs : pz_i2 (fun x y => some (x * y)) pc L st h = some (.inl q)) (kk : pz_Go p l e R s m args below meth c Q G mi n0 m0 q) : pz_Go p l e R s m args below meth c Q G mi n0 m0 (pc, L, st, h) := by
  obtain ⟨⟨hx, hb, hml, hown⟩, hts, ⟨hK, hN, hCa, hAO⟩, ⟨hbs, hbz, hX⟩, ⟨hlk, hnm, hrt⟩, hfr, hlo⟩ := C
  unfold pz_i2 at hs
  split at hs
  · rename_i y x r
    obtain rfl := pz_gos hs
    intro H ls locs cells slots Z hc hs2
    exact lv_imul hx hb hdg (kk H ls locs cells slots Z hc hs2)
  · cases hs
theorem pz_w_iand (C : pz_Cx p R s m args meth c G S mi) (hdg : decode (px_c mi) pc = .ok (.iand, 1)) (hs : pz_i2 (fun x y => some (x &&& y)) pc L st h = some (.inl q)) (kk : pz_Go p l e R s m args below meth c Q G mi n0 m0 q) : pz_Go p l e R s m args below meth c Q G mi n0 m0 (pc, L, st, h) := by
  obtain ⟨⟨hx, hb, hml, hown⟩, hts, ⟨hK, hN, hCa, hAO⟩, ⟨hbs, hbz, hX⟩, ⟨hlk, hnm, hrt⟩, hfr, hlo⟩ := C
  unfold pz_i2 at hs
  split at hs
  · rename_i y x r
    obtain rfl := pz_gos hs
    intro H ls locs cells slots Z hc hs2
    exact lv_iand hx hb hdg (kk H ls locs cells slots Z hc hs2)
  · cases hs
theorem pz_w_ior (C : pz_Cx p R s m args meth c G S mi) (hdg : decode (px_c mi) pc = .ok (.ior, 1)) (hs : pz_i2 (fun x y => some (x ||| y)) pc L st h = some (.inl q)) (kk : pz_Go p l e R s m args below meth c Q G mi n0 m0 q) : pz_Go p l e R s m args below meth c Q G mi n0 m0 (pc, L, st, h) := by
  obtain ⟨⟨hx, hb, hml, hown⟩, hts, ⟨hK, hN, hCa, hAO⟩, ⟨hbs, hbz, hX⟩, ⟨hlk, hnm, hrt⟩, hfr, hlo⟩ := C
  unfold pz_i2 at hs
  split at hs
  · rename_i y x r
    obtain rfl := pz_gos hs
    intro H ls locs cells slots Z hc hs2
    exact lv_ior hx hb hdg (kk H ls locs cells slots Z hc hs2)
  · cases hs
theorem pz_w_ishl (C : pz_Cx p R s m args meth c G S mi) (hdg : decode (px_c mi) pc = .ok (.ishl, 1)) (hs : pz_i2 (fun x y => some (x <<< (y &&& 31))) pc L st h = some (.inl q)) (kk : pz_Go p l e R s m args below meth c Q G mi n0 m0 q) : pz_Go p l e R s m args below meth c Q G mi n0 m0 (pc, L, st, h) := by
  obtain ⟨⟨hx, hb, hml, hown⟩, hts, ⟨hK, hN, hCa, hAO⟩, ⟨hbs, hbz, hX⟩, ⟨hlk, hnm, hrt⟩, hfr, hlo⟩ := C
  unfold pz_i2 at hs
  split at hs
  · rename_i y x r
    obtain rfl := pz_gos hs
    intro H ls locs cells slots Z hc hs2
    exact lv_ishl hx hb hdg (kk H ls locs cells slots Z hc hs2)
  · cases hs
theorem pz_w_ishr (C : pz_Cx p R s m args meth c G S mi) (hdg : decode (px_c mi) pc = .ok (.ishr, 1)) (hs : pz_i2 (fun x y => some (x >>> (y &&& 31))) pc L st h = some (.inl q)) (kk : pz_Go p l e R s m args below meth c Q G mi n0 m0 q) : pz_Go p l e R s m args below meth c Q G mi n0 m0 (pc, L, st, h) := by
  obtain ⟨⟨hx, hb, hml, hown⟩, hts, ⟨hK, hN, hCa, hAO⟩, ⟨hbs, hbz, hX⟩, ⟨hlk, hnm, hrt⟩, hfr, hlo⟩ := C
  unfold pz_i2 at hs
  split at hs
  · rename_i y x r
    obtain rfl := pz_gos hs
    intro H ls locs cells slots Z hc hs2
    exact lv_ishr hx hb hdg (kk H ls locs cells slots Z hc hs2)
  · cases hs
theorem pz_w_iushr (C : pz_Cx p R s m args meth c G S mi) (hdg : decode (px_c mi) pc = .ok (.iushr, 1)) (hs : pz_i2 (fun x y => some (x.toUInt32 >>> (y.toUInt32 &&& Int32.toUInt32 31)).toInt32) pc L st h = some (.inl q)) (kk : pz_Go p l e R s m args below meth c Q G mi n0 m0 q) : pz_Go p l e R s m args below meth c Q G mi n0 m0 (pc, L, st, h) := by
  obtain ⟨⟨hx, hb, hml, hown⟩, hts, ⟨hK, hN, hCa, hAO⟩, ⟨hbs, hbz, hX⟩, ⟨hlk, hnm, hrt⟩, hfr, hlo⟩ := C
  unfold pz_i2 at hs
  split at hs
  · rename_i y x r
    obtain rfl := pz_gos hs
    intro H ls locs cells slots Z hc hs2
    exact lv_iushr hx hb hdg rfl (kk H ls locs cells slots Z hc hs2)
  · cases hs
theorem pz_w_idiv (C : pz_Cx p R s m args meth c G S mi) (hdg : decode (px_c mi) pc = .ok (.idiv, 1)) (hs : pz_i2 (fun x y => if y = 0 then none else some (x / y)) pc L st h = some (.inl q)) (kk : pz_Go p l e R s m args below meth c Q G mi n0 m0 q) : pz_Go p l e R s m args below meth c Q G mi n0 m0 (pc, L, st, h) := by
  obtain ⟨⟨hx, hb, hml, hown⟩, hts, ⟨hK, hN, hCa, hAO⟩, ⟨hbs, hbz, hX⟩, ⟨hlk, hnm, hrt⟩, hfr, hlo⟩ := C
  unfold pz_i2 at hs
  split at hs
  · rename_i y x r
    obtain ⟨v, h1, h2⟩ := Option.bind_eq_some_iff.mp hs
    have h1 : (if y = 0 then none else some (x / y)) = some v := h1
    split at h1
    · cases h1
    · rename_i hne
      cases h1
      obtain rfl := pz_gos h2
      intro H ls locs cells slots Z hc hs2
      exact lv_idiv hx hb hdg hne (kk H ls locs cells slots Z hc hs2)
  · cases hs
theorem pz_w_irem (C : pz_Cx p R s m args meth c G S mi) (hdg : decode (px_c mi) pc = .ok (.irem, 1)) (hs : pz_i2 (fun x y => if y = 0 then none else some (x - x / y * y)) pc L st h = some (.inl q)) (kk : pz_Go p l e R s m args below meth c Q G mi n0 m0 q) : pz_Go p l e R s m args below meth c Q G mi n0 m0 (pc, L, st, h) := by
  obtain ⟨⟨hx, hb, hml, hown⟩, hts, ⟨hK, hN, hCa, hAO⟩, ⟨hbs, hbz, hX⟩, ⟨hlk, hnm, hrt⟩, hfr, hlo⟩ := C
  unfold pz_i2 at hs
  split at hs
  · rename_i y x r
    obtain ⟨v, h1, h2⟩ := Option.bind_eq_some_iff.mp hs
    have h1 : (if y = 0 then none else some (x - x / y * y)) = some v := h1
    split at h1
    · cases h1
    · rename_i hne
      cases h1
      obtain rfl := pz_gos h2
      intro H ls locs cells slots Z hc hs2
      exact lv_irem hx hb hdg hne (kk H ls locs cells slots Z hc hs2)
  · cases hs
theorem pz_w_ldiv (C : pz_Cx p R s m args meth c G S mi) (hdg : decode (px_c mi) pc = .ok (.ldiv, 1)) (hs : pz_l2 (fun x y => if y = 0 then none else some (x / y)) pc L st h = some (.inl q)) (kk : pz_Go p l e R s m args below meth c Q G mi n0 m0 q) : pz_Go p l e R s m args below meth c Q G mi n0 m0 (pc, L, st, h) := by
  obtain ⟨⟨hx, hb, hml, hown⟩, hts, ⟨hK, hN, hCa, hAO⟩, ⟨hbs, hbz, hX⟩, ⟨hlk, hnm, hrt⟩, hfr, hlo⟩ := C
  unfold pz_l2 at hs
  split at hs
  · rename_i y x r
    obtain ⟨v, h1, h2⟩ := Option.bind_eq_some_iff.mp hs
    have h1 : (if y = 0 then none else some (x / y)) = some v := h1
    split at h1
    · cases h1
    · rename_i hne
      cases h1
      obtain rfl := pz_gos h2
      intro H ls locs cells slots Z hc hs2
      exact lv_ldiv hx hb hdg hne (kk H ls locs cells slots Z hc hs2)
  · cases hs
theorem pz_w_lrem (C : pz_Cx p R s m args meth c G S mi) (hdg : decode (px_c mi) pc = .ok (.lrem, 1)) (hs : pz_l2 (fun x y => if y = 0 then none else some (x - x / y * y)) pc L st h = some (.inl q)) (kk : pz_Go p l e R s m args below meth c Q G mi n0 m0 q) : pz_Go p l e R s m args below meth c Q G mi n0 m0 (pc, L, st, h) := by
  obtain ⟨⟨hx, hb, hml, hown⟩, hts, ⟨hK, hN, hCa, hAO⟩, ⟨hbs, hbz, hX⟩, ⟨hlk, hnm, hrt⟩, hfr, hlo⟩ := C
  unfold pz_l2 at hs
  split at hs
  · rename_i y x r
    obtain ⟨v, h1, h2⟩ := Option.bind_eq_some_iff.mp hs
    have h1 : (if y = 0 then none else some (x - x / y * y)) = some v := h1
    split at h1
    · cases h1
    · rename_i hne
      cases h1
      obtain rfl := pz_gos h2
      intro H ls locs cells slots Z hc hs2
      exact lv_lrem hx hb hdg hne (kk H ls locs cells slots Z hc hs2)
  · cases hs
theorem pz_w_ladd (C : pz_Cx p R s m args meth c G S mi) (hdg : decode (px_c mi) pc = .ok (.ladd, 1)) (hs : pz_l2 (fun x y => some (x + y)) pc L st h = some (.inl q)) (kk : pz_Go p l e R s m args below meth c Q G mi n0 m0 q) : pz_Go p l e R s m args below meth c Q G mi n0 m0 (pc, L, st, h) := by
  obtain ⟨⟨hx, hb, hml, hown⟩, hts, ⟨hK, hN, hCa, hAO⟩, ⟨hbs, hbz, hX⟩, ⟨hlk, hnm, hrt⟩, hfr, hlo⟩ := C
  unfold pz_l2 at hs
  split at hs
  · rename_i y x r
    obtain rfl := pz_gos hs
    intro H ls locs cells slots Z hc hs2
    exact lv_ladd hx hb hdg (kk H ls locs cells slots Z hc hs2)
  · cases hs
theorem pz_w_lmul (C : pz_Cx p R s m args meth c G S mi) (hdg : decode (px_c mi) pc = .ok (.lmul, 1)) (hs : pz_l2 (fun x y => some (x * y)) pc L st h = some (.inl q)) (kk : pz_Go p l e R s m args below meth c Q G mi n0 m0 q) : pz_Go p l e R s m args below meth c Q G mi n0 m0 (pc, L, st, h) := by
  obtain ⟨⟨hx, hb, hml, hown⟩, hts, ⟨hK, hN, hCa, hAO⟩, ⟨hbs, hbz, hX⟩, ⟨hlk, hnm, hrt⟩, hfr, hlo⟩ := C
  unfold pz_l2 at hs
  split at hs
  · rename_i y x r
    obtain rfl := pz_gos hs
    intro H ls locs cells slots Z hc hs2
    exact lv_lmul hx hb hdg (kk H ls locs cells slots Z hc hs2)
  · cases hs
theorem pz_w_land (C : pz_Cx p R s m args meth c G S mi) (hdg : decode (px_c mi) pc = .ok (.land, 1)) (hs : pz_l2 (fun x y => some (x &&& y)) pc L st h = some (.inl q)) (kk : pz_Go p l e R s m args below meth c Q G mi n0 m0 q) : pz_Go p l e R s m args below meth c Q G mi n0 m0 (pc, L, st, h) := by
  obtain ⟨⟨hx, hb, hml, hown⟩, hts, ⟨hK, hN, hCa, hAO⟩, ⟨hbs, hbz, hX⟩, ⟨hlk, hnm, hrt⟩, hfr, hlo⟩ := C
  unfold pz_l2 at hs
  split at hs
  · rename_i y x r
    obtain rfl := pz_gos hs
    intro H ls locs cells slots Z hc hs2
    exact lv_land hx hb hdg (kk H ls locs cells slots Z hc hs2)
  · cases hs
theorem pz_tgs {off : Int} {n : Nat} (ht : pz_tg pc off = some n) : (pc : Int) + off = (n : Int) := by
  unfold pz_tg at ht
  split at ht
  · rename_i t e
    cases ht
    exact e
  · cases ht
theorem pz_jps {off : Int} {L' : pz_L} {st' : List Value} {h' : pz_H} (hs : pz_jp pc off L' st' h' = some (.inl q)) : ∃ t : Nat, (pc : Int) + off = (t : Int) ∧ q = (t, L', st', h') := by
  unfold pz_jp at hs
  obtain ⟨t, h1, h2⟩ := Option.bind_eq_some_iff.mp hs
  exact ⟨t, pz_tgs h1, pz_gos h2⟩
theorem pz_w_goto (C : pz_Cx p R s m args meth c G S mi) {off : Int} (hdg : decode (px_c mi) pc = .ok (.goto off, 3)) (hs : pz_jp pc off L st h = some (.inl q)) (kk : pz_Go p l e R s m args below meth c Q G mi n0 m0 q) : pz_Go p l e R s m args below meth c Q G mi n0 m0 (pc, L, st, h) := by
  obtain ⟨⟨hx, hb, hml, hown⟩, hts, ⟨hK, hN, hCa, hAO⟩, ⟨hbs, hbz, hX⟩, ⟨hlk, hnm, hrt⟩, hfr, hlo⟩ := C
  obtain ⟨t, ht, rfl⟩ := pz_jps hs
  intro H ls locs cells slots Z hc hs2
  exact lv_goto hx hb hdg ht (kk H ls locs cells slots Z hc hs2)
theorem pz_w_if_eq (C : pz_Cx p R s m args meth c G S mi) {off : Int} {x : Int32} {r : List Value} (hdg : decode (px_c mi) pc = .ok (.ifCond .eq off, 3)) (hs : pz_br (pz_cc .eq x 0) pc off L r h = some (.inl q)) (kk : pz_Go p l e R s m args below meth c Q G mi n0 m0 q) : pz_Go p l e R s m args below meth c Q G mi n0 m0 (pc, L, .int x :: r, h) := by
  obtain ⟨⟨hx, hb, hml, hown⟩, hts, ⟨hK, hN, hCa, hAO⟩, ⟨hbs, hbz, hX⟩, ⟨hlk, hnm, hrt⟩, hfr, hlo⟩ := C
  intro H ls locs cells slots Z hc hs2
  obtain ⟨t, ht', hs⟩ := Option.bind_eq_some_iff.mp hs
  have ht := pz_tgs ht'
  by_cases hP : x = 0
  · have e1 : pz_cc .eq x 0 = true := by simp [pz_cc, hP]
    rw [e1] at hs
    obtain rfl := pz_gos (show pz_go t L r h = some (.inl q) from hs)
    exact lv_if_eq hx hb hdg ht (fun _ => kk H ls locs cells slots Z hc hs2) (fun z => absurd hP (by simpa using z))
  · have e1 : pz_cc .eq x 0 = false := by simp [pz_cc] at hP ⊢; exact hP
    rw [e1] at hs
    obtain rfl := pz_gos (show pz_go (pc + 3) L r h = some (.inl q) from hs)
    exact lv_if_eq hx hb hdg ht (fun z => absurd z hP) (fun _ => kk H ls locs cells slots Z hc hs2)
theorem pz_w_if_ne (C : pz_Cx p R s m args meth c G S mi) {off : Int} {x : Int32} {r : List Value} (hdg : decode (px_c mi) pc = .ok (.ifCond .ne off, 3)) (hs : pz_br (pz_cc .ne x 0) pc off L r h = some (.inl q)) (kk : pz_Go p l e R s m args below meth c Q G mi n0 m0 q) : pz_Go p l e R s m args below meth c Q G mi n0 m0 (pc, L, .int x :: r, h) := by
  obtain ⟨⟨hx, hb, hml, hown⟩, hts, ⟨hK, hN, hCa, hAO⟩, ⟨hbs, hbz, hX⟩, ⟨hlk, hnm, hrt⟩, hfr, hlo⟩ := C
  intro H ls locs cells slots Z hc hs2
  obtain ⟨t, ht', hs⟩ := Option.bind_eq_some_iff.mp hs
  have ht := pz_tgs ht'
  by_cases hP : ¬ x = 0
  · have e1 : pz_cc .ne x 0 = true := by simp [pz_cc, hP]
    rw [e1] at hs
    obtain rfl := pz_gos (show pz_go t L r h = some (.inl q) from hs)
    exact lv_if_ne hx hb hdg ht (fun _ => kk H ls locs cells slots Z hc hs2) (fun z => absurd hP (by simpa using z))
  · have e1 : pz_cc .ne x 0 = false := by simp [pz_cc] at hP ⊢; exact hP
    rw [e1] at hs
    obtain rfl := pz_gos (show pz_go (pc + 3) L r h = some (.inl q) from hs)
    exact lv_if_ne hx hb hdg ht (fun z => absurd z hP) (fun _ => kk H ls locs cells slots Z hc hs2)
theorem pz_w_if_lt (C : pz_Cx p R s m args meth c G S mi) {off : Int} {x : Int32} {r : List Value} (hdg : decode (px_c mi) pc = .ok (.ifCond .lt off, 3)) (hs : pz_br (pz_cc .lt x 0) pc off L r h = some (.inl q)) (kk : pz_Go p l e R s m args below meth c Q G mi n0 m0 q) : pz_Go p l e R s m args below meth c Q G mi n0 m0 (pc, L, .int x :: r, h) := by
  obtain ⟨⟨hx, hb, hml, hown⟩, hts, ⟨hK, hN, hCa, hAO⟩, ⟨hbs, hbz, hX⟩, ⟨hlk, hnm, hrt⟩, hfr, hlo⟩ := C
  intro H ls locs cells slots Z hc hs2
  obtain ⟨t, ht', hs⟩ := Option.bind_eq_some_iff.mp hs
  have ht := pz_tgs ht'
  by_cases hP : x < 0
  · have e1 : pz_cc .lt x 0 = true := by simp [pz_cc, hP]
    rw [e1] at hs
    obtain rfl := pz_gos (show pz_go t L r h = some (.inl q) from hs)
    exact lv_if_lt hx hb hdg ht (fun _ => kk H ls locs cells slots Z hc hs2) (fun z => absurd hP (by simpa using z))
  · have e1 : pz_cc .lt x 0 = false := by simp [pz_cc] at hP ⊢; exact hP
    rw [e1] at hs
    obtain rfl := pz_gos (show pz_go (pc + 3) L r h = some (.inl q) from hs)
    exact lv_if_lt hx hb hdg ht (fun z => absurd z hP) (fun _ => kk H ls locs cells slots Z hc hs2)
theorem pz_w_if_ge (C : pz_Cx p R s m args meth c G S mi) {off : Int} {x : Int32} {r : List Value} (hdg : decode (px_c mi) pc = .ok (.ifCond .ge off, 3)) (hs : pz_br (pz_cc .ge x 0) pc off L r h = some (.inl q)) (kk : pz_Go p l e R s m args below meth c Q G mi n0 m0 q) : pz_Go p l e R s m args below meth c Q G mi n0 m0 (pc, L, .int x :: r, h) := by
  obtain ⟨⟨hx, hb, hml, hown⟩, hts, ⟨hK, hN, hCa, hAO⟩, ⟨hbs, hbz, hX⟩, ⟨hlk, hnm, hrt⟩, hfr, hlo⟩ := C
  intro H ls locs cells slots Z hc hs2
  obtain ⟨t, ht', hs⟩ := Option.bind_eq_some_iff.mp hs
  have ht := pz_tgs ht'
  by_cases hP : 0 ≤ x
  · have e1 : pz_cc .ge x 0 = true := by simp [pz_cc, hP]
    rw [e1] at hs
    obtain rfl := pz_gos (show pz_go t L r h = some (.inl q) from hs)
    exact lv_if_ge hx hb hdg ht (fun _ => kk H ls locs cells slots Z hc hs2) (fun z => absurd hP (by simpa using z))
  · have e1 : pz_cc .ge x 0 = false := by simp [pz_cc] at hP ⊢; exact hP
    rw [e1] at hs
    obtain rfl := pz_gos (show pz_go (pc + 3) L r h = some (.inl q) from hs)
    exact lv_if_ge hx hb hdg ht (fun z => absurd z hP) (fun _ => kk H ls locs cells slots Z hc hs2)
theorem pz_w_if_gt (C : pz_Cx p R s m args meth c G S mi) {off : Int} {x : Int32} {r : List Value} (hdg : decode (px_c mi) pc = .ok (.ifCond .gt off, 3)) (hs : pz_br (pz_cc .gt x 0) pc off L r h = some (.inl q)) (kk : pz_Go p l e R s m args below meth c Q G mi n0 m0 q) : pz_Go p l e R s m args below meth c Q G mi n0 m0 (pc, L, .int x :: r, h) := by
  obtain ⟨⟨hx, hb, hml, hown⟩, hts, ⟨hK, hN, hCa, hAO⟩, ⟨hbs, hbz, hX⟩, ⟨hlk, hnm, hrt⟩, hfr, hlo⟩ := C
  intro H ls locs cells slots Z hc hs2
  obtain ⟨t, ht', hs⟩ := Option.bind_eq_some_iff.mp hs
  have ht := pz_tgs ht'
  by_cases hP : 0 < x
  · have e1 : pz_cc .gt x 0 = true := by simp [pz_cc, hP]
    rw [e1] at hs
    obtain rfl := pz_gos (show pz_go t L r h = some (.inl q) from hs)
    exact lv_if_gt hx hb hdg ht (fun _ => kk H ls locs cells slots Z hc hs2) (fun z => absurd hP (by simpa using z))
  · have e1 : pz_cc .gt x 0 = false := by simp [pz_cc] at hP ⊢; exact hP
    rw [e1] at hs
    obtain rfl := pz_gos (show pz_go (pc + 3) L r h = some (.inl q) from hs)
    exact lv_if_gt hx hb hdg ht (fun z => absurd z hP) (fun _ => kk H ls locs cells slots Z hc hs2)
theorem pz_w_if_le (C : pz_Cx p R s m args meth c G S mi) {off : Int} {x : Int32} {r : List Value} (hdg : decode (px_c mi) pc = .ok (.ifCond .le off, 3)) (hs : pz_br (pz_cc .le x 0) pc off L r h = some (.inl q)) (kk : pz_Go p l e R s m args below meth c Q G mi n0 m0 q) : pz_Go p l e R s m args below meth c Q G mi n0 m0 (pc, L, .int x :: r, h) := by
  obtain ⟨⟨hx, hb, hml, hown⟩, hts, ⟨hK, hN, hCa, hAO⟩, ⟨hbs, hbz, hX⟩, ⟨hlk, hnm, hrt⟩, hfr, hlo⟩ := C
  intro H ls locs cells slots Z hc hs2
  obtain ⟨t, ht', hs⟩ := Option.bind_eq_some_iff.mp hs
  have ht := pz_tgs ht'
  by_cases hP : x ≤ 0
  · have e1 : pz_cc .le x 0 = true := by simp [pz_cc, hP]
    rw [e1] at hs
    obtain rfl := pz_gos (show pz_go t L r h = some (.inl q) from hs)
    exact lv_if_le hx hb hdg ht (fun _ => kk H ls locs cells slots Z hc hs2) (fun z => absurd hP (by simpa using z))
  · have e1 : pz_cc .le x 0 = false := by simp [pz_cc] at hP ⊢; exact hP
    rw [e1] at hs
    obtain rfl := pz_gos (show pz_go (pc + 3) L r h = some (.inl q) from hs)
    exact lv_if_le hx hb hdg ht (fun z => absurd z hP) (fun _ => kk H ls locs cells slots Z hc hs2)
theorem pz_w_icmp_eq (C : pz_Cx p R s m args meth c G S mi) {off : Int} {x y : Int32} {r : List Value} (hdg : decode (px_c mi) pc = .ok (.if_icmp .eq off, 3)) (hs : pz_br (pz_cc .eq x y) pc off L r h = some (.inl q)) (kk : pz_Go p l e R s m args below meth c Q G mi n0 m0 q) : pz_Go p l e R s m args below meth c Q G mi n0 m0 (pc, L, .int y :: .int x :: r, h) := by
  obtain ⟨⟨hx, hb, hml, hown⟩, hts, ⟨hK, hN, hCa, hAO⟩, ⟨hbs, hbz, hX⟩, ⟨hlk, hnm, hrt⟩, hfr, hlo⟩ := C
  intro H ls locs cells slots Z hc hs2
  obtain ⟨t, ht', hs⟩ := Option.bind_eq_some_iff.mp hs
  have ht := pz_tgs ht'
  by_cases hP : x = y
  · have e1 : pz_cc .eq x y = true := by simp [pz_cc, hP]
    rw [e1] at hs
    obtain rfl := pz_gos (show pz_go t L r h = some (.inl q) from hs)
    exact lv_icmp_eq hx hb hdg ht (fun _ => kk H ls locs cells slots Z hc hs2) (fun z => absurd hP (by simpa using z))
  · have e1 : pz_cc .eq x y = false := by simp [pz_cc] at hP ⊢; exact hP
    rw [e1] at hs
    obtain rfl := pz_gos (show pz_go (pc + 3) L r h = some (.inl q) from hs)
    exact lv_icmp_eq hx hb hdg ht (fun z => absurd z hP) (fun _ => kk H ls locs cells slots Z hc hs2)
theorem pz_w_icmp_ne (C : pz_Cx p R s m args meth c G S mi) {off : Int} {x y : Int32} {r : List Value} (hdg : decode (px_c mi) pc = .ok (.if_icmp .ne off, 3)) (hs : pz_br (pz_cc .ne x y) pc off L r h = some (.inl q)) (kk : pz_Go p l e R s m args below meth c Q G mi n0 m0 q) : pz_Go p l e R s m args below meth c Q G mi n0 m0 (pc, L, .int y :: .int x :: r, h) := by
  obtain ⟨⟨hx, hb, hml, hown⟩, hts, ⟨hK, hN, hCa, hAO⟩, ⟨hbs, hbz, hX⟩, ⟨hlk, hnm, hrt⟩, hfr, hlo⟩ := C
  intro H ls locs cells slots Z hc hs2
  obtain ⟨t, ht', hs⟩ := Option.bind_eq_some_iff.mp hs
  have ht := pz_tgs ht'
  by_cases hP : ¬ x = y
  · have e1 : pz_cc .ne x y = true := by simp [pz_cc, hP]
    rw [e1] at hs
    obtain rfl := pz_gos (show pz_go t L r h = some (.inl q) from hs)
    exact lv_icmp_ne hx hb hdg ht (fun _ => kk H ls locs cells slots Z hc hs2) (fun z => absurd hP (by simpa using z))
  · have e1 : pz_cc .ne x y = false := by simp [pz_cc] at hP ⊢; exact hP
    rw [e1] at hs
    obtain rfl := pz_gos (show pz_go (pc + 3) L r h = some (.inl q) from hs)
    exact lv_icmp_ne hx hb hdg ht (fun z => absurd z hP) (fun _ => kk H ls locs cells slots Z hc hs2)
theorem pz_w_icmp_lt (C : pz_Cx p R s m args meth c G S mi) {off : Int} {x y : Int32} {r : List Value} (hdg : decode (px_c mi) pc = .ok (.if_icmp .lt off, 3)) (hs : pz_br (pz_cc .lt x y) pc off L r h = some (.inl q)) (kk : pz_Go p l e R s m args below meth c Q G mi n0 m0 q) : pz_Go p l e R s m args below meth c Q G mi n0 m0 (pc, L, .int y :: .int x :: r, h) := by
  obtain ⟨⟨hx, hb, hml, hown⟩, hts, ⟨hK, hN, hCa, hAO⟩, ⟨hbs, hbz, hX⟩, ⟨hlk, hnm, hrt⟩, hfr, hlo⟩ := C
  intro H ls locs cells slots Z hc hs2
  obtain ⟨t, ht', hs⟩ := Option.bind_eq_some_iff.mp hs
  have ht := pz_tgs ht'
  by_cases hP : x < y
  · have e1 : pz_cc .lt x y = true := by simp [pz_cc, hP]
    rw [e1] at hs
    obtain rfl := pz_gos (show pz_go t L r h = some (.inl q) from hs)
    exact lv_icmp_lt hx hb hdg ht (fun _ => kk H ls locs cells slots Z hc hs2) (fun z => absurd hP (by simpa using z))
  · have e1 : pz_cc .lt x y = false := by simp [pz_cc] at hP ⊢; exact hP
    rw [e1] at hs
    obtain rfl := pz_gos (show pz_go (pc + 3) L r h = some (.inl q) from hs)
    exact lv_icmp_lt hx hb hdg ht (fun z => absurd z hP) (fun _ => kk H ls locs cells slots Z hc hs2)
theorem pz_w_icmp_ge (C : pz_Cx p R s m args meth c G S mi) {off : Int} {x y : Int32} {r : List Value} (hdg : decode (px_c mi) pc = .ok (.if_icmp .ge off, 3)) (hs : pz_br (pz_cc .ge x y) pc off L r h = some (.inl q)) (kk : pz_Go p l e R s m args below meth c Q G mi n0 m0 q) : pz_Go p l e R s m args below meth c Q G mi n0 m0 (pc, L, .int y :: .int x :: r, h) := by
  obtain ⟨⟨hx, hb, hml, hown⟩, hts, ⟨hK, hN, hCa, hAO⟩, ⟨hbs, hbz, hX⟩, ⟨hlk, hnm, hrt⟩, hfr, hlo⟩ := C
  intro H ls locs cells slots Z hc hs2
  obtain ⟨t, ht', hs⟩ := Option.bind_eq_some_iff.mp hs
  have ht := pz_tgs ht'
  by_cases hP : y ≤ x
  · have e1 : pz_cc .ge x y = true := by simp [pz_cc, hP]
    rw [e1] at hs
    obtain rfl := pz_gos (show pz_go t L r h = some (.inl q) from hs)
    exact lv_icmp_ge hx hb hdg ht (fun _ => kk H ls locs cells slots Z hc hs2) (fun z => absurd hP (by simpa using z))
  · have e1 : pz_cc .ge x y = false := by simp [pz_cc] at hP ⊢; exact hP
    rw [e1] at hs
    obtain rfl := pz_gos (show pz_go (pc + 3) L r h = some (.inl q) from hs)
    exact lv_icmp_ge hx hb hdg ht (fun z => absurd z hP) (fun _ => kk H ls locs cells slots Z hc hs2)
theorem pz_w_icmp_gt (C : pz_Cx p R s m args meth c G S mi) {off : Int} {x y : Int32} {r : List Value} (hdg : decode (px_c mi) pc = .ok (.if_icmp .gt off, 3)) (hs : pz_br (pz_cc .gt x y) pc off L r h = some (.inl q)) (kk : pz_Go p l e R s m args below meth c Q G mi n0 m0 q) : pz_Go p l e R s m args below meth c Q G mi n0 m0 (pc, L, .int y :: .int x :: r, h) := by
  obtain ⟨⟨hx, hb, hml, hown⟩, hts, ⟨hK, hN, hCa, hAO⟩, ⟨hbs, hbz, hX⟩, ⟨hlk, hnm, hrt⟩, hfr, hlo⟩ := C
  intro H ls locs cells slots Z hc hs2
  obtain ⟨t, ht', hs⟩ := Option.bind_eq_some_iff.mp hs
  have ht := pz_tgs ht'
  by_cases hP : y < x
  · have e1 : pz_cc .gt x y = true := by simp [pz_cc, hP]
    rw [e1] at hs
    obtain rfl := pz_gos (show pz_go t L r h = some (.inl q) from hs)
    exact lv_icmp_gt hx hb hdg ht (fun _ => kk H ls locs cells slots Z hc hs2) (fun z => absurd hP (by simpa using z))
  · have e1 : pz_cc .gt x y = false := by simp [pz_cc] at hP ⊢; exact hP
    rw [e1] at hs
    obtain rfl := pz_gos (show pz_go (pc + 3) L r h = some (.inl q) from hs)
    exact lv_icmp_gt hx hb hdg ht (fun z => absurd z hP) (fun _ => kk H ls locs cells slots Z hc hs2)
theorem pz_w_icmp_le (C : pz_Cx p R s m args meth c G S mi) {off : Int} {x y : Int32} {r : List Value} (hdg : decode (px_c mi) pc = .ok (.if_icmp .le off, 3)) (hs : pz_br (pz_cc .le x y) pc off L r h = some (.inl q)) (kk : pz_Go p l e R s m args below meth c Q G mi n0 m0 q) : pz_Go p l e R s m args below meth c Q G mi n0 m0 (pc, L, .int y :: .int x :: r, h) := by
  obtain ⟨⟨hx, hb, hml, hown⟩, hts, ⟨hK, hN, hCa, hAO⟩, ⟨hbs, hbz, hX⟩, ⟨hlk, hnm, hrt⟩, hfr, hlo⟩ := C
  intro H ls locs cells slots Z hc hs2
  obtain ⟨t, ht', hs⟩ := Option.bind_eq_some_iff.mp hs
  have ht := pz_tgs ht'
  by_cases hP : x ≤ y
  · have e1 : pz_cc .le x y = true := by simp [pz_cc, hP]
    rw [e1] at hs
    obtain rfl := pz_gos (show pz_go t L r h = some (.inl q) from hs)
    exact lv_icmp_le hx hb hdg ht (fun _ => kk H ls locs cells slots Z hc hs2) (fun z => absurd hP (by simpa using z))
  · have e1 : pz_cc .le x y = false := by simp [pz_cc] at hP ⊢; exact hP
    rw [e1] at hs
    obtain rfl := pz_gos (show pz_go (pc + 3) L r h = some (.inl q) from hs)
    exact lv_icmp_le hx hb hdg ht (fun z => absurd z hP) (fun _ => kk H ls locs cells slots Z hc hs2)
end PZ
