section PZ4
variable {p : Program} {l : Launch} {e : Env} {R : Room} {s : State} {m : MethodId} {args : Array Value} {below : List Frame} {meth : Method} {c : Code} {Q : State → Prop} {G : pz_D} {S : (Nat → Int32) × Nat} {mi n0 m0 : Nat} {pc : Nat} {L : pz_L} {st : List Value} {h : pz_H} {q : Nat × (pz_L × (List Value × pz_H))}
theorem pz_U.same {u U : State} (hv : u.vm = U.vm) (h : pz_U G u) : pz_U G U := by
  have ha : u.vm.Alike U.vm := by rw [hv]; exact Vm.Alike.refl _
  refine ⟨va_K.moved ha h.1, fun w hw => ?_, va_Nw.same rfl hv h.2.2.1, va_AO.moved ha h.2.2.2⟩
  have h2 := (List.mem_filter.mp hw).2
  have h3 := h.2.1 w hw
  cases w <;> first | exact va_Nw.same rfl hv h3 | (simp at h2; done)
theorem pz_U.warm {s U : State} (hW : s.WarmedH U.vm) (h : pz_U G s) : pz_U G U := by
  refine ⟨va_K.moved hW.alike h.1, fun w hw => ?_, va_Nw.warmC hW h.2.2.1, va_AO.moved hW.alike h.2.2.2⟩
  have h2 := (List.mem_filter.mp hw).2
  have h3 := h.2.1 w hw
  cases w <;> first | exact va_Nw.warmM hW h3 | (simp at h2; done)
def pz_Pc (G : pz_D) (S : (Nat → Int32) × Nat) (as : List Value) (h : pz_H) : Array Value → State → Prop := va_Pc (as.map (pz_v G.2.1.1 G.2.1.2)) (fun U => pz_R G h U.heap ∧ pz_U G U ∧ pz_B G S U)
def pz_Qc (G : pz_D) (v : Option Value) (h : pz_H) : Array Value → State → Outcome → State → Prop := fun _ st oc t => oc = .returned (v.map (pz_v G.2.1.1 G.2.1.2)) ∧ pz_R G h t.heap ∧ ∀ q : Nat, q < G.2.1.1 → t.heap[q]? = st.heap[q]?
theorem pz_blind (as : List Value) : FrameBlind (pz_Pc G S as h) := by
  intro a U g mk hq
  obtain ⟨h1, h2, h3, h4⟩ := hq
  exact ⟨h1, h2, pz_U.same (u := U) (U := U.calling g mk a) rfl h3, h4.1, h4.2.1, va_X.moved (u := U) (U := U.calling g mk a) (Vm.Alike.refl U.vm) h4.2.2⟩
/-- behind a call -/
theorem pz_back {H : Heap} {ls : Array Slot} {locs : List Loc} {cells slots mc ms : Nat} {rest : List Value} {v : Option Value} {h' : pz_H} {a : Array Value} {st0 : List Value} (Z : pz_Z G s mi h H L ls locs)
    (hr : va_Run p l e R s m args below meth c H locs cells slots mc ms (F0 m pc ls st0) (rest.map (pz_v G.2.1.1 G.2.1.2)) (pz_Qc G v h' a) (fun q => G.2.1.1 ≤ q))
    (hc : n0 + (cells + mc) = h'.2.1) (hs : m0 + (slots + ms) = h'.2.2) (kk : pz_Go p l e R s m args below meth c Q G mi n0 m0 (pc + 3, L, v.toList ++ rest, h')) : W p l e R s m args below meth c H locs cells slots Q (F0 m pc ls st0) := by
  intro T hT X
  obtain ⟨v', st₀, t, T', L2, z0, X', hL, e1, e2, ⟨hv, hR, hk⟩, stp⟩ := hr T hT X
  have hv' : v' = v.map (pz_v G.2.1.1 G.2.1.2) := by cases hv; rfl
  subst hv'
  obtain ⟨t2, a1, b1⟩ := kk T'.heap ls (locs ++ L2) (cells + mc) (slots + ms) ⟨by rw [e1]; exact hR, fun q hq => by rw [e1, hk q hq, z0]; exact Z.2.1 q hq, Z.2.2.1, fun q hq => by
    rcases List.mem_append.mp hq with y | y
    · exact Z.2.2.2 q y
    · exact hL q y⟩ hc hs T' rfl X'
  refine ⟨t2, stp t2 ?_, b1⟩
  have e3 : (v.toList ++ rest).map (pz_v G.2.1.1 G.2.1.2) = (v.map (pz_v G.2.1.1 G.2.1.2)).toList ++ rest.map (pz_v G.2.1.1 G.2.1.2) := by cases v <;> simp
  rw [← e3]
  exact a1
theorem pz_m_call {a n : Nat} (hs : pz_call a n st = some (.inl q)) : False := by
  unfold pz_call at hs
  split at hs <;> cases hs
theorem pz_m_ret {rt : Option FieldType} {v : Value} (hs : pz_ret rt v st = some (.inl q)) : False := by
  unfold pz_ret at hs
  split at hs
  · split at hs <;> cases hs
  · cases hs
def pz_le (h h' : pz_H) : Prop := h.2.1 ≤ h'.2.1 ∧ h.2.2 ≤ h'.2.2
theorem pz_le_rf : pz_le h h := ⟨Nat.le_refl _, Nat.le_refl _⟩
theorem pz_m_g {pc' : Nat} {L' : pz_L} {st' : List Value} (hs : pz_go pc' L' st' h = some (.inl q)) : pz_le h q.2.2.2 := by
  obtain rfl := pz_gos hs
  exact pz_le_rf
theorem pz_m_u {pc' : Nat} {L' : pz_L} {st' : List Value} {i : Nat} {e : pz_E} (hs : pz_go pc' L' st' (pz_up h i e) = some (.inl q)) : pz_le h q.2.2.2 := by
  obtain rfl := pz_gos hs
  exact ⟨Nat.le_refl _, Nat.le_refl _⟩
theorem pz_m_n {pc' : Nat} {L' : pz_L} {st' : List Value} {n : Nat} {e : pz_E} (hs : pz_go pc' L' st' (pz_nw h e n) = some (.inl q)) : pz_le h q.2.2.2 := by
  obtain rfl := pz_gos hs
  exact ⟨Nat.le_succ _, Nat.le_add_right _ _⟩
theorem pz_m_ild (i pc2 : Nat) (hs : pz_ild i pc2 L st h = some (.inl q)) : pz_le h q.2.2.2 := by
  unfold pz_ild at hs
  split at hs
  · exact pz_m_g hs
  · cases hs
theorem pz_m_lld (i pc2 : Nat) (hs : pz_lld i pc2 L st h = some (.inl q)) : pz_le h q.2.2.2 := by
  unfold pz_lld at hs
  split at hs
  · exact pz_m_g hs
  · cases hs
theorem pz_m_ald (i pc2 : Nat) (hs : pz_ald i pc2 L st h = some (.inl q)) : pz_le h q.2.2.2 := by
  unfold pz_ald at hs
  split at hs
  · exact pz_m_g hs
  · exact pz_m_g hs
  · exact pz_m_g hs
  · cases hs
theorem pz_m_ist (i pc2 : Nat) (hs : pz_ist i pc2 L st h = some (.inl q)) : pz_le h q.2.2.2 := by
  unfold pz_ist at hs
  split at hs
  · obtain ⟨_, _, hs⟩ := Option.bind_eq_some_iff.mp hs
    exact pz_m_g hs
  · cases hs
theorem pz_m_lst (i pc2 : Nat) (hs : pz_lst i pc2 L st h = some (.inl q)) : pz_le h q.2.2.2 := by
  unfold pz_lst at hs
  split at hs
  · obtain ⟨_, _, hs⟩ := Option.bind_eq_some_iff.mp hs
    exact pz_m_g hs
  · cases hs
theorem pz_m_ast (i pc2 : Nat) (hs : pz_ast i pc2 L st h = some (.inl q)) : pz_le h q.2.2.2 := by
  unfold pz_ast at hs
  split at hs
  · obtain ⟨_, _, hs⟩ := Option.bind_eq_some_iff.mp hs
    exact pz_m_g hs
  · obtain ⟨_, _, hs⟩ := Option.bind_eq_some_iff.mp hs
    exact pz_m_g hs
  · cases hs
theorem pz_m_i2 (f : Int32 → Int32 → Option Int32) (hs : pz_i2 f pc L st h = some (.inl q)) : pz_le h q.2.2.2 := by
  unfold pz_i2 at hs
  split at hs
  · obtain ⟨_, _, hs⟩ := Option.bind_eq_some_iff.mp hs
    exact pz_m_g hs
  · cases hs
theorem pz_m_l2 (f : Int64 → Int64 → Option Int64) (hs : pz_l2 f pc L st h = some (.inl q)) : pz_le h q.2.2.2 := by
  unfold pz_l2 at hs
  split at hs
  · obtain ⟨_, _, hs⟩ := Option.bind_eq_some_iff.mp hs
    exact pz_m_g hs
  · cases hs
theorem pz_m_jp (off : Int) (hs : pz_jp pc off L st h = some (.inl q)) : pz_le h q.2.2.2 := by
  unfold pz_jp at hs
  obtain ⟨_, _, hs⟩ := Option.bind_eq_some_iff.mp hs
  exact pz_m_g hs
theorem pz_m_br (b : Bool) (off : Int) (hs : pz_br b pc off L st h = some (.inl q)) : pz_le h q.2.2.2 := by
  unfold pz_br at hs
  obtain ⟨_, _, hs⟩ := Option.bind_eq_some_iff.mp hs
  split at hs
  · exact pz_m_g hs
  · exact pz_m_g hs
theorem pz_m_iald (S : (Nat → Int32) × Nat) (hs : pz_iald S pc L st h = some (.inl q)) : pz_le h q.2.2.2 := by
  unfold pz_iald at hs
  split at hs
  · obtain ⟨_, _, hs⟩ := Option.bind_eq_some_iff.mp hs
    split at hs
    · exact pz_m_g hs
    · cases hs
  · split at hs
    · exact pz_m_g hs
    · cases hs
  · cases hs
theorem pz_m_iast  (hs : pz_iast pc L st h = some (.inl q)) : pz_le h q.2.2.2 := by
  unfold pz_iast at hs
  split at hs
  · obtain ⟨_, _, hs⟩ := Option.bind_eq_some_iff.mp hs
    split at hs
    · exact pz_m_u hs
    · cases hs
  · cases hs
theorem pz_m_aald  (hs : pz_aald pc L st h = some (.inl q)) : pz_le h q.2.2.2 := by
  unfold pz_aald at hs
  split at hs
  · obtain ⟨_, _, hs⟩ := Option.bind_eq_some_iff.mp hs
    split at hs
    · exact pz_m_g hs
    · cases hs
  · cases hs
theorem pz_m_aast  (hs : pz_aast pc L st h = some (.inl q)) : pz_le h q.2.2.2 := by
  unfold pz_aast at hs
  split at hs
  · obtain ⟨_, _, hs⟩ := Option.bind_eq_some_iff.mp hs
    split at hs
    · exact pz_m_u hs
    · cases hs
  · obtain ⟨_, _, hs⟩ := Option.bind_eq_some_iff.mp hs
    split at hs
    · exact pz_m_u hs
    · cases hs
  · cases hs
theorem pz_m_alen (S : (Nat → Int32) × Nat) (hs : pz_alen S pc L st h = some (.inl q)) : pz_le h q.2.2.2 := by
  unfold pz_alen at hs
  split at hs
  · obtain ⟨_, _, hs⟩ := Option.bind_eq_some_iff.mp hs
    exact pz_m_g hs
  · exact pz_m_g hs
  · cases hs
theorem pz_m_getf (a b : Nat) (hs : pz_getf a b pc L st h = some (.inl q)) : pz_le h q.2.2.2 := by
  unfold pz_getf at hs
  split at hs
  · obtain ⟨_, _, hs⟩ := Option.bind_eq_some_iff.mp hs
    obtain ⟨_, _, hs⟩ := Option.bind_eq_some_iff.mp hs
    exact pz_m_g hs
  · cases hs
theorem pz_m_putf (a b : Nat) (hs : pz_putf a b pc L st h = some (.inl q)) : pz_le h q.2.2.2 := by
  unfold pz_putf at hs
  split at hs
  · obtain ⟨_, _, hs⟩ := Option.bind_eq_some_iff.mp hs
    split at hs
    · exact pz_m_u hs
    · cases hs
  · cases hs
theorem pz_m_newa  (hs : pz_newa pc L st h = some (.inl q)) : pz_le h q.2.2.2 := by
  unfold pz_newa at hs
  split at hs
  · split at hs
    · exact pz_m_n hs
    · cases hs
  · cases hs
theorem pz_m_newq  (hs : pz_newq pc L st h = some (.inl q)) : pz_le h q.2.2.2 := by
  unfold pz_newq at hs
  split at hs
  · split at hs
    · exact pz_m_n hs
    · cases hs
  · cases hs
theorem pz_m_cpy  (hs : pz_cpy pc L st h = some (.inl q)) : pz_le h q.2.2.2 := by
  unfold pz_cpy at hs
  split at hs
  · obtain ⟨_, _, hs⟩ := Option.bind_eq_some_iff.mp hs
    obtain ⟨_, _, hs⟩ := Option.bind_eq_some_iff.mp hs
    split at hs
    · exact pz_m_u hs
    · cases hs
  · cases hs
theorem pz_m_mx (f : Int32 → Int32 → Int32) (hs : pz_mx f pc L st h = some (.inl q)) : pz_le h q.2.2.2 := by
  unfold pz_mx at hs
  split at hs
  · split at hs
    · exact pz_m_g hs
    · cases hs
  · cases hs
theorem pz_m_isp (a b : Nat) (hs : pz_isp a b pc L st h = some (.inl q)) : pz_le h q.2.2.2 := by
  unfold pz_isp at hs
  split at hs
  · split at hs
    · split at hs
      · exact pz_m_g hs
      · cases hs
    · cases hs
  · split at hs
    · exact (pz_m_call hs).elim
    · cases hs
theorem pz_m_ivi (a b : Nat) (hs : pz_ivi a b pc L st h = some (.inl q)) : pz_le h q.2.2.2 := by
  unfold pz_ivi at hs
  split at hs
  · split at hs
    · obtain ⟨_, _, hs⟩ := Option.bind_eq_some_iff.mp hs
      split at hs
      · exact pz_m_n hs
      · cases hs
    · cases hs
  · split at hs
    · split at hs
      · exact (pz_m_call hs).elim
      · cases hs
    · cases hs
theorem pz_m_iss (a b : Nat) (hs : pz_ist_ a b pc L st h = some (.inl q)) : pz_le h q.2.2.2 := by
  unfold pz_ist_ at hs
  split at hs
  · exact pz_m_cpy hs
  · split at hs
    · exact pz_m_mx _ hs
    · split at hs
      · exact pz_m_mx _ hs
      · exact (pz_m_call hs).elim
theorem pz_m_step {rt : Option FieldType} {k : px_K} (hs : pz_step S rt k pc L st h = some (.inl q)) : pz_le h q.2.2.2 := by
  unfold pz_step at hs
  split at hs
  · exact pz_m_g hs
  · exact pz_m_g hs
  · exact pz_m_g hs
  · exact pz_m_g hs
  · exact pz_m_g hs
  · exact pz_m_g hs
  · exact pz_m_g hs
  · exact pz_m_g hs
  · exact pz_m_ild _ _ hs
  · exact pz_m_ild _ _ hs
  · exact pz_m_lld _ _ hs
  · exact pz_m_lld _ _ hs
  · exact pz_m_ald _ _ hs
  · exact pz_m_ald _ _ hs
  · exact pz_m_ist _ _ hs
  · exact pz_m_ist _ _ hs
  · exact pz_m_lst _ _ hs
  · exact pz_m_lst _ _ hs
  · exact pz_m_ast _ _ hs
  · exact pz_m_ast _ _ hs
  · split at hs
    · obtain ⟨L2, h1, hs⟩ := Option.bind_eq_some_iff.mp hs
      exact pz_m_g hs
    · cases hs
  · exact pz_m_i2 _ hs
  · exact pz_m_i2 _ hs
  · exact pz_m_i2 _ hs
  · exact pz_m_i2 _ hs
  · exact pz_m_i2 _ hs
  · exact pz_m_i2 _ hs
  · exact pz_m_i2 _ hs
  · exact pz_m_i2 _ hs
  · exact pz_m_i2 _ hs
  · exact pz_m_i2 _ hs
  · exact pz_m_l2 _ hs
  · exact pz_m_l2 _ hs
  · exact pz_m_l2 _ hs
  · exact pz_m_l2 _ hs
  · exact pz_m_l2 _ hs
  · split at hs
    · exact pz_m_g hs
    · cases hs
  · split at hs
    · exact pz_m_g hs
    · cases hs
  · split at hs
    · exact pz_m_g hs
    · cases hs
  · split at hs
    · split at hs
      · exact pz_m_g hs
      · cases hs
    · cases hs
  · split at hs
    · split at hs
      · exact pz_m_g hs
      · cases hs
    · cases hs
  · exact pz_m_jp _ hs
  · split at hs
    · exact pz_m_br _ _ hs
    · cases hs
  · split at hs
    · exact pz_m_br _ _ hs
    · cases hs
  · split at hs
    · exact pz_m_jp _ hs
    · exact pz_m_g hs
    · cases hs
  · split at hs
    · split at hs
      · exact pz_m_jp _ hs
      · cases hs
    · cases hs
  · split at hs
    · split at hs
      · exact pz_m_jp _ hs
      · obtain ⟨o, h1, hs⟩ := Option.bind_eq_some_iff.mp hs
        exact pz_m_jp _ hs
    · cases hs
  · exact pz_m_iald _ hs
  · exact pz_m_iast hs
  · exact pz_m_aald hs
  · exact pz_m_aast hs
  · exact pz_m_alen _ hs
  · exact pz_m_getf _ _ hs
  · exact pz_m_putf _ _ hs
  · exact pz_m_n hs
  · exact pz_m_newa hs
  · exact pz_m_newq hs
  · split at hs
    · obtain ⟨o, h1, hs⟩ := Option.bind_eq_some_iff.mp hs
      exact pz_m_g hs
    · cases hs
  · exact pz_m_isp _ _ hs
  · exact pz_m_ivi _ _ hs
  · exact pz_m_iss _ _ hs
  · split at hs
    · exact (pz_m_ret hs).elim
    · cases hs
  · split at hs
    · exact (pz_m_ret hs).elim
    · cases hs
  · split at hs
    · exact (pz_m_ret hs).elim
    · exact (pz_m_ret hs).elim
    · cases hs
  · split at hs <;> cases hs
  · cases hs
theorem pz_m_run (S : (Nat → Int32) × Nat) : ∀ (n mi pc : Nat) (L : pz_L) (st : List Value) (h : pz_H) (v : Option Value) (h' : pz_H), pz_run S n mi pc L st h = some (v, h') → pz_le h h' := by
  intro n
  induction n with
  | zero => intro mi pc L st h v h' hr; cases hr
  | succ n ih =>
    intro mi pc L st h v h' hr
    unfold pz_run at hr
    split at hr
    · cases hr
    · rename_i k hk
      split at hr
      · cases hr
      · rename_i q hs
        have h1 := pz_m_step hs
        have h2 := ih _ _ _ _ _ _ _ hr
        exact ⟨Nat.le_trans h1.1 h2.1, Nat.le_trans h1.2 h2.2⟩
      · cases hr
        exact pz_le_rf
      · rename_i q hs
        split at hr
        · cases hr
        · rename_i u hu
          have h1 := ih _ _ _ _ _ _ _ hu
          have h2 := ih _ _ _ _ _ _ _ hr
          exact ⟨Nat.le_trans h1.1 h2.1, Nat.le_trans h1.2 h2.2⟩
end PZ4
