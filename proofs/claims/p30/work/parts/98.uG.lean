/-! ## the law's first objects: our machine over a list of cells -/
abbrev eE : Type := Nat ⊕ (Nat ⊕ (Nat × List Value))
abbrev eX : Type := (Nat × (pz_L × (List Value × (List eE × Nat)))) ⊕ (Option Value ⊕ (Nat × (List Value × List Value)))
def eC : Option eE → pz_E
  | some (.inl n) => .inl (n, fun _ => 0)
  | some (.inr (.inl n)) => .inr (.inl (n, fun _ => none))
  | some (.inr (.inr q)) => .inr (.inr q)
  | none => .inl (0, fun _ => 0)
def eH (l : List eE) (s : Nat) : pz_H := (fun i => eC l[i]?, (l.length, s))
theorem eH_nw (l : List eE) (s n : Nat) (e : eE) : pz_nw (eH l s) (eC (some e)) n = eH (l ++ [e]) (s + n) := by
  unfold pz_nw eH
  refine congr (congrArg Prod.mk (funext fun j => ?_)) (by rw [List.length_append]; rfl)
  by_cases h : j = l.length
  · rw [if_pos h, h, List.getElem?_append_right (Nat.le_refl _), Nat.sub_self]; rfl
  · rw [if_neg h]
    show eC l[j]? = eC (l ++ [e])[j]?
    by_cases h2 : j < l.length
    · rw [List.getElem?_append_left h2]
    · have e1 : l.length ≤ j := by omega
      have e2 : (l ++ [e]).length ≤ j := by
        rw [List.length_append]
        show l.length + 1 ≤ j
        omega
      rw [List.getElem?_eq_none e1, List.getElem?_eq_none e2]
theorem eH_up (l : List eE) (s i : Nat) (e : eE) (hi : i < l.length) : pz_up (eH l s) i (eC (some e)) = eH (l.set i e) s := by
  unfold pz_up eH
  refine congr (congrArg Prod.mk (funext fun j => ?_)) (by rw [List.length_set])
  by_cases h : j = i
  · rw [if_pos h, h, List.getElem?_set_self hi]
  · rw [if_neg h, List.getElem?_set_ne (fun z => h z.symm)]
theorem eH_obj {l : List eE} {s i c : Nat} {fs : List Value} (h : l[i]? = some (.inr (.inr (c, fs)))) : i < l.length ∧ pz_obj (eH l s) i c = some fs := by
  have hi : i < l.length := (List.getElem?_eq_some_iff.mp h).1
  refine ⟨hi, ?_⟩
  have e : (eH l s).1 i = .inr (.inr (c, fs)) := by show eC l[i]? = _; rw [h]; rfl
  unfold pz_obj
  rw [e]
  exact if_pos ⟨rfl, hi⟩
def e_obj (l : List eE) (i c : Nat) : Option (List Value) := match l[i]? with
  | some (.inr (.inr (c', fs))) => if c' = c then some fs else none
  | _ => none
theorem e_obj_e {l : List eE} {s i c : Nat} {fs : List Value} (h : e_obj l i c = some fs) : i < l.length ∧ pz_obj (eH l s) i c = some fs := by
  unfold e_obj at h
  split at h
  · rename_i c' fs' hl
    by_cases hc : c' = c
    · rw [if_pos hc] at h
      cases h; subst hc
      exact eH_obj hl
    · rw [if_neg hc] at h; cases h
  · cases h
def e_step (rt : Option FieldType) (k : px_K) (pc : Nat) (L : pz_L) (st : List Value) (l : List eE) (s : Nat) : Option eX := match k.1 with
  | .iconst n => some (.inl (pc + 1, L, .int (Int32.ofInt n) :: st, l, s))
  | .bipush n => some (.inl (pc + 2, L, .int (Int8.ofInt n).toInt32 :: st, l, s))
  | .sipush n => some (.inl (pc + 3, L, .int (Int16.ofInt n).toInt32 :: st, l, s))
  | .aconst_null => some (.inl (pc + 1, L, .null :: st, l, s))
  | .iload_n i => match pz_get L i with
    | some (.int x) => some (.inl (pc + 1, L, .int x :: st, l, s))
    | _ => none
  | .aload_n i => match pz_get L i with
    | some (.ref x) => some (.inl (pc + 1, L, .ref x :: st, l, s))
    | _ => none
  | .istore_n i => match st with
    | .int x :: r => (pz_s1 L i (.int x)).bind fun L' => some (.inl (pc + 1, L', r, l, s))
    | _ => none
  | .astore_n i => match st with
    | .ref x :: r => (pz_s1 L i (.ref x)).bind fun L' => some (.inl (pc + 1, L', r, l, s))
    | _ => none
  | .astore i => match st with
    | .ref x :: r => (pz_s1 L i (.ref x)).bind fun L' => some (.inl (pc + 2, L', r, l, s))
    | _ => none
  | .dup => match st with
    | v :: r => if v.category = 1 then some (.inl (pc + 1, L, v :: v :: r, l, s)) else none
    | _ => none
  | .if_icmp c off => match st with
    | .int y :: .int x :: r => (pz_tg pc off).bind fun t => match pz_cc c x y with
      | true => some (.inl (t, L, r, l, s))
      | false => some (.inl (pc + 3, L, r, l, s))
    | _ => none
  | .getfield _ => match st with
    | .ref i :: r => (e_obj l i k.2.2.1).bind fun fs => (fs[k.2.2.2.1]?).bind fun v => some (.inl (pc + 3, L, v :: r, l, s))
    | _ => none
  | .putfield _ => match st with
    | v :: .ref i :: r => (e_obj l i k.2.2.1).bind fun fs => match Nat.blt k.2.2.2.1 fs.length && pz_fit (px_ty k.2.2.1 k.2.2.2.1) v with
      | true => some (Sum.inl (pc + 3, L, r, l.set i (.inr (.inr (k.2.2.1, fs.set k.2.2.2.1 v))), s))
      | false => none
    | _ => none
  | .new _ => some (.inl (pc + 3, L, .ref l.length :: st, l ++ [.inr (.inr (k.2.2.1, px_df k.2.2.1))], s + px_N k.2.2.1))
  | .newarray .int => match st with
    | .int n :: r => match !(decide (n < 0)) && Nat.ble (n.toNatClampNeg * 4) 536870912 with
      | true => some (.inl (pc + 2, L, .ref l.length :: r, l ++ [.inl n.toNatClampNeg], s + n.toNatClampNeg))
      | false => none
    | _ => none
  | .anewarray _ => match st with
    | .int n :: r => match !(decide (n < 0)) && Nat.ble (n.toNatClampNeg * 4) 536870912 with
      | true => some (.inl (pc + 3, L, .ref l.length :: r, l ++ [.inr (.inl n.toNatClampNeg)], s + n.toNatClampNeg))
      | false => none
    | _ => none
  | .invokespecial _ => if k.2.2.1 = 1000 then (match st with
      | .ref _ :: r => match Nat.ble (pz_sum r) 8 with
        | true => some (.inl (pc + 3, L, r, l, s))
        | false => none
      | _ => none)
    else match st.drop k.2.2.2.1 with
      | .ref _ :: _ => match Nat.ble (k.2.2.2.1 + 1) st.length && Nat.ble (pz_sum (st.drop (k.2.2.2.1 + 1))) 8 && Nat.ble (pz_sl (st.take (k.2.2.2.1 + 1)).reverse).length (px_ml k.2.2.1) with
        | true => some (.inr (.inr (k.2.2.1, (st.take (k.2.2.2.1 + 1)).reverse, st.drop (k.2.2.2.1 + 1))))
        | false => none
      | _ => none
  | .return_ => match st, rt with
    | [], none => some (.inr (.inl none))
    | _, _ => none
  | _ => none
def e_jn : eX → pz_X
  | .inl (pc, L, st, l, s) => .inl (pc, L, st, eH l s)
  | .inr x => .inr x
theorem e_step_ok (S : (Nat → Int32) × Nat) {rt : Option FieldType} {k : px_K} {pc : Nat} {L : pz_L} {st : List Value} {l : List eE} {s : Nat} {x : eX} (h : e_step rt k pc L st l s = some x) : pz_step S rt k pc L st (eH l s) = some (e_jn x) := by
  unfold e_step at h
  unfold pz_step
  split at h
  all_goals rename_i hk
  all_goals first | rw [hk] | skip
  · cases h; rfl
  · cases h; rfl
  · cases h; rfl
  · cases h; rfl
  · unfold pz_ild
    dsimp only
    split at h
    · rename_i hg
      rw [hg]; cases h; rfl
    · cases h
  · unfold pz_ald
    dsimp only
    split at h
    · rename_i hg
      rw [hg]; cases h; rfl
    · cases h
  · unfold pz_ist
    dsimp only
    split at h
    · cases hp : pz_s1 L _ _ with
      | none => rw [hp] at h; cases h
      | some L' => rw [hp] at h; cases h; (try dsimp only); (try rw [hp]); rfl
    · cases h
  · unfold pz_ast
    dsimp only
    split at h
    · rename_i x0 r0
      cases hp : pz_s1 L _ (.ref x0) with
      | none => rw [hp] at h; cases h
      | some L' => rw [hp] at h; cases h; (try dsimp only); (try rw [hp]); rfl
    · cases h
  · unfold pz_ast
    dsimp only
    split at h
    · rename_i x0 r0
      cases hp : pz_s1 L _ (.ref x0) with
      | none => rw [hp] at h; cases h
      | some L' => rw [hp] at h; cases h; (try dsimp only); (try rw [hp]); rfl
    · cases h
  · dsimp only
    split at h
    · split at h
      · rename_i hv
        cases h; (try dsimp only); rw [if_pos hv]; rfl
      · cases h
    · cases h
  · dsimp only
    split at h
    · rename_i y x r
      unfold pz_br
      cases hp : pz_tg pc _ with
      | none => rw [hp] at h; cases h
      | some q =>
        rw [hp] at h
        (try dsimp only at h)
        show (match pz_cc _ x y with | true => pz_go q L r (eH l s) | false => pz_go (pc + 3) L r (eH l s)) = _
        change (match pz_cc _ x y with | true => some (Sum.inl (q, L, r, l, s) : eX) | false => some (.inl (pc + 3, L, r, l, s))) = some _ at h
        split at h
        · rename_i hc; (try rw [hc]); cases h; rfl
        · rename_i hc; (try rw [hc]); cases h; rfl
    · cases h
  · unfold pz_getf
    dsimp only
    split at h
    · cases ho : e_obj l _ k.2.2.1 with
      | none => rw [ho] at h; cases h
      | some fs =>
        rw [ho] at h
        (try dsimp only)
        rw [(e_obj_e ho).2]
        change (fs[k.2.2.2.1]?).bind _ = _ at h
        show (fs[k.2.2.2.1]?).bind _ = _
        cases hv : fs[k.2.2.2.1]? with
        | none => rw [hv] at h; cases h
        | some v => rw [hv] at h; cases h; rfl
    · cases h
  · unfold pz_putf
    dsimp only
    split at h
    · rename_i v i r
      cases ho : e_obj l i k.2.2.1 with
      | none => rw [ho] at h; cases h
      | some fs =>
        rw [ho] at h
        (try dsimp only)
        have hj := e_obj_e (s := s) ho
        rw [hj.2]
        show (match Nat.blt k.2.2.2.1 fs.length && pz_fit (px_ty k.2.2.1 k.2.2.2.1) v with | true => pz_go (pc + 3) L r (pz_up (eH l s) i (.inr (.inr (k.2.2.1, fs.set k.2.2.2.1 v)))) | false => none) = _
        change (match Nat.blt k.2.2.2.1 fs.length && pz_fit (px_ty k.2.2.1 k.2.2.2.1) v with | true => some (Sum.inl (pc + 3, L, r, l.set i (.inr (.inr (k.2.2.1, fs.set k.2.2.2.1 v))), s) : eX) | false => none) = some _ at h
        split at h
        · rename_i hc
          (try rw [hc]); cases h
          show some (Sum.inl (pc + 3, L, r, pz_up (eH l s) i (eC (some (.inr (.inr (k.2.2.1, fs.set k.2.2.2.1 v)))))) : pz_X) = _
          rw [eH_up _ _ _ _ hj.1]; rfl
        · cases h
    · cases h
  · cases h
    show some (Sum.inl (pc + 3, L, .ref l.length :: st, pz_nw (eH l s) (eC (some (.inr (.inr (k.2.2.1, px_df k.2.2.1))))) (px_N k.2.2.1)) : pz_X) = _
    rw [eH_nw]; rfl
  · unfold pz_newa
    dsimp only
    split at h
    · rename_i n r
      split at h
      · rename_i hc
        (try dsimp only)
        rw [hc]; cases h
        show some (Sum.inl (pc + 2, L, .ref l.length :: r, pz_nw (eH l s) (eC (some (.inl n.toNatClampNeg))) n.toNatClampNeg) : pz_X) = _
        rw [eH_nw]; rfl
      · cases h
    · cases h
  · unfold pz_newq
    dsimp only
    split at h
    · rename_i n r
      split at h
      · rename_i hc
        (try dsimp only)
        rw [hc]; cases h
        show some (Sum.inl (pc + 3, L, .ref l.length :: r, pz_nw (eH l s) (eC (some (.inr (.inl n.toNatClampNeg)))) n.toNatClampNeg) : pz_X) = _
        rw [eH_nw]; rfl
      · cases h
    · cases h
  · unfold pz_isp
    dsimp only
    split at h
    · rename_i h1000
      rw [if_pos h1000]
      split at h
      · split at h
        · rename_i hc
          (try dsimp only)
          rw [hc]; cases h; rfl
        · cases h
      · cases h
    · rename_i h1000
      rw [if_neg h1000]
      split at h
      · rename_i hd
        rw [hd]
        (try dsimp only)
        unfold pz_call
        split at h
        · rename_i hc
          rw [hc]; cases h; rfl
        · cases h
      · cases h
  · dsimp only
    split at h
    · cases h; rfl
    · cases h
  · cases h
def e_run : Nat → Nat → Nat → pz_L → List Value → List eE → Nat → Option (Option Value × (List eE × Nat))
  | 0, _, _, _, _, _, _ => none
  | n + 1, m, pc, L, st, l, s => match px_at m pc with
    | none => none
    | some k => match e_step (px_rt m) k pc L st l s with
      | none => none
      | some (.inl q) => e_run n m q.1 q.2.1 q.2.2.1 q.2.2.2.1 q.2.2.2.2
      | some (.inr (.inl v)) => some (v, (l, s))
      | some (.inr (.inr q)) => match e_run n q.1 0 (pz_in (px_ml q.1) q.2.1) [] l s with
        | none => none
        | some u => e_run n m (pc + 3) L (u.1.toList ++ q.2.2) u.2.1 u.2.2
theorem e_run_ok (S : (Nat → Int32) × Nat) : ∀ (n m pc : Nat) (L : pz_L) (st : List Value) (l : List eE) (s : Nat) (u : Option Value × (List eE × Nat)), e_run n m pc L st l s = some u → pz_run S n m pc L st (eH l s) = some (u.1, eH u.2.1 u.2.2) := by
  intro n
  induction n with
  | zero => intro m pc L st l s u h; cases h
  | succ n ih =>
    intro m pc L st l s u h
    unfold e_run at h
    unfold pz_run
    split at h
    · cases h
    · rename_i k hk
      split at h
      · cases h
      · rename_i q hq
        have e := e_step_ok S hq
        (try rw [hk]); (try dsimp only)
        rw [e]
        exact ih _ _ _ _ _ _ _ h
      · rename_i v hv
        have e := e_step_ok S hv
        (try rw [hk]); (try dsimp only)
        rw [e]
        cases h; rfl
      · rename_i q hq
        have e := e_step_ok S hq
        (try rw [hk]); (try dsimp only)
        rw [e]
        split at h
        · cases h
        · rename_i w hw
          have e1 := ih _ _ _ _ _ _ _ hw
          show (match pz_run S n q.1 0 (pz_in (px_ml q.1) q.2.1) [] (eH l s) with | none => none | some u => pz_run S n m (pc + 3) L (u.1.toList ++ q.2.2) u.2) = _
          rw [e1]
          exact ih _ _ _ _ _ _ _ h
def e_to (m stop : Nat) : Nat → Nat → pz_L → List Value → List eE → Nat → Option (pz_L × (List Value × (List eE × Nat)))
  | 0, _, _, _, _, _ => none
  | n + 1, pc, L, st, l, s => match Nat.beq pc stop with
    | true => some (L, (st, (l, s)))
    | false => match px_at m pc with
      | none => none
      | some k => match e_step (px_rt m) k pc L st l s with
        | none => none
        | some (.inl q) => e_to m stop n q.1 q.2.1 q.2.2.1 q.2.2.2.1 q.2.2.2.2
        | some (.inr (.inl _)) => none
        | some (.inr (.inr q)) => match e_run n q.1 0 (pz_in (px_ml q.1) q.2.1) [] l s with
          | none => none
          | some u => e_to m stop n (pc + 3) L (u.1.toList ++ q.2.2) u.2.1 u.2.2
theorem e_to_ok (S : (Nat → Int32) × Nat) (m stop : Nat) : ∀ (n pc : Nat) (L : pz_L) (st : List Value) (l : List eE) (s : Nat) (u : pz_L × (List Value × (List eE × Nat))), e_to m stop n pc L st l s = some u → ∀ (N : Nat) (r : Option Value × pz_H), pz_run S N m stop u.1 u.2.1 (eH u.2.2.1 u.2.2.2) = some r → ∃ N', pz_run S N' m pc L st (eH l s) = some r := by
  intro n
  induction n with
  | zero => intro pc L st l s u h; cases h
  | succ n ih =>
    intro pc L st l s u h N r hr
    unfold e_to at h
    split at h
    · rename_i hb
      cases h
      have : pc = stop := Nat.eq_of_beq_eq_true hb
      subst this
      exact ⟨N, hr⟩
    · split at h
      · cases h
      · rename_i k hk
        split at h
        · cases h
        · rename_i q hq
          have e := e_step_ok S hq
          obtain ⟨N', h'⟩ := ih _ _ _ _ _ _ h N r hr
          refine ⟨N' + 1, ?_⟩
          unfold pz_run
          rw [hk]; dsimp only; rw [e]
          exact h'
        · cases h
        · rename_i q hq
          have e := e_step_ok S hq
          split at h
          · cases h
          · rename_i w hw
            have e1 := e_run_ok S _ _ _ _ _ _ _ _ hw
            obtain ⟨N', h'⟩ := ih _ _ _ _ _ _ h N r hr
            refine ⟨N' + n + 1, ?_⟩
            unfold pz_run
            rw [hk]; dsimp only; rw [e]
            show (match pz_run S (N' + n) q.1 0 (pz_in (px_ml q.1) q.2.1) [] (eH l s) with | none => none | some u => pz_run S (N' + n) m (pc + 3) L (u.1.toList ++ q.2.2) u.2) = _
            rw [pz_mono S n _ _ _ _ _ _ e1 (N' + n) (by omega)]
            exact pz_mono S N' _ _ _ _ _ _ h' (N' + n) (by omega)
