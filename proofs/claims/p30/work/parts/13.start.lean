/-! THE CLAIM OUT OF ONE WALK OF THE LAW'S BODY. Your part is whole_start (and what it stands on); all else here is the same for every law, but numbers. -/
def R_law : String := "RowUnwinderLaw"
def lw_P (b : Addr) (xs : List Int32) (args : Array Value) (s : State) : Prop := args = #[.ref b] ∧ s.IntsAt b xs ∧ xs.length ≤ 260 ∧ (Jvm.Cond.and given_1 narrow_1).before args s = true
def lw_Q (_ : Array Value) (s : State) (o : Outcome) (t : State) : Prop := o = .returned (some (.int 1)) ∧ Framed s o t [] 600000 7302250
def lw_Z (below : List Frame) (a : Array Value) (s : State) : State → Prop := fun t => ∃ o, t.status = .running ∧ Ended t below o ∧ lw_Q a s o t
/-- the law's own end, with 1 on the stack, nothing written that was there before, its room as the claim has it -/
theorem lw_ret {p : Program} {l : Launch} {e : Env} {s : State} {m : MethodId} {below : List Frame} {meth : Method} {c : Code} {b : Nat} (hx : p.tables.exec = Jvm.exec) (hb : c.code = code) (hr : meth.sig.returnType = ret) (hlocks : meth.locks = false) {pc : Nat} {H : Heap} {ls : Array Slot} (hdg : decode code pc = .ok (.ireturn, 1)) : W p l e room_1 s m #[Value.ref b] below meth c H [] 600000 7302250 (lw_Z below #[Value.ref b] s) (F0 m pc ls [.int 1]) := by
  intro T hT X
  obtain ⟨fs, hret, hrun, hended, hW, hframe⟩ := X.leave (v := some (.int 1)) (hlocks := hlocks) (fun h => by rw [hr] at h; cases h)
  have hmeth' : T.vm.method? m = some meth := X.method'
  refine ⟨T.setFrames fs, ?_, .returned (some (.int 1)), hrun, hended, rfl, ⟨_, rfl⟩, hW, hframe⟩
  jvm_step X.here [X.here.top, hx, hb, hdg, hmeth', hr, ret, narrow_b1]
  (try refine ⟨rfl, ?_⟩); (try refine ⟨rfl, ?_⟩)
  first | (intro acts; rw [hret _ acts rfl rfl rfl]) | rw [hret _ _ rfl rfl rfl]
  exact Steps.refl _
/-- what holds at the law's entry: the machine, the code, the tables' words (any of lw_tbl by 'hts w (by decide +kernel)'), the script of L ints xs at the cell b, what the Statement gives of the start (any of its parts by flat_of_before) -/
def lw_At (p : Program) (s : State) (m : MethodId) (meth : Method) (c : Code) (b L : Nat) (xs : Nat → Int32) : Prop :=
  p.tables.exec = Jvm.exec ∧ c.code = code ∧ meth.sig.returnType = ret ∧ c.maxLocals = 12 ∧ s.vm.findClass R_law = some m.cls ∧ (∀ w ∈ lw_tbl, w.before #[Value.ref b] s = true) ∧ va_X b L xs s s.heap ∧ b < s.heap.size ∧ meth.locks = false ∧ (Jvm.Cond.and given_1 narrow_1).before #[Value.ref b] s = true
/-! ## the law: from a run of our machine to the claim's walk -/
def pz_h0 : pz_H := (fun _ => .inl (0, fun _ => 0), (0, 0))
set_option maxRecDepth 100000 in
theorem px_ins : ((List.range 10).all fun c => decide (Cond.instantiable (px_R c) (px_N c) ∈ lw_tbl)) = true := by decide +kernel
theorem pz_start (hrun : ∀ (S : (Nat → Int32) × Nat), S.2 ≤ 260 → ∃ n h', pz_run S n 116 0 (pz_in 12 [.retAddr 0]) [] pz_h0 = some (some (.int 1), h') ∧ h'.2.1 ≤ 600000 ∧ h'.2.2 ≤ 7302250)
    {p : Program} {e : Env} {s : State} {m : MethodId} {below : List Frame} {meth : Method} {c : Code} (l : Launch) {b L : Nat} {xs : Nat → Int32} (hL : L ≤ 260) (C0 : lw_At p s m meth c b L xs) : W p l e room_1 s m #[Value.ref b] below meth c s.heap [] 0 0 (lw_Z below #[Value.ref b] s) (entryFrame m ([Value.ref b] : List Value).toArray 12) := by
  obtain ⟨hx, hb, hr, hml, hown, hts, hX, hbl, hlocks, hgv⟩ := id C0
  obtain ⟨n, h', hr1, hr2, hr3⟩ := hrun (xs, L) hL
  have hkn : ∀ k : Nat, ∃ q : ClassId × (Nat → Nat), k < 10 → u_Kn s (px_R k) (px_T k) (px_N k) q.1 q.2 := by
    intro k
    by_cases hk : k < 10
    · obtain ⟨cC, iS, h⟩ := u_known (C := px_R k) (T := px_T k) (N := px_N k) (n := px_N k) hts (fun w hw => (List.mem_filter.mp (px_uin hk w hw)).1) (hts _ (of_decide_eq_true (List.all_eq_true.mp px_ins k (List.mem_range.mpr hk))))
      exact ⟨(cC, iS), fun _ => h⟩
    · exact ⟨(0, fun _ => 0), fun h => absurd h hk⟩
  obtain ⟨cI, kI, comp, a1, a2, a3⟩ := Cond.arrayClass_spec (hts _ px_w_arr.1)
  obtain ⟨compQ, cQ, kQ, b1, b2, b3, b4, b5⟩ := Cond.arrayOver_spec (hts _ px_w_arr.2.1)
  generalize hG : (((fun k => (Classical.choose (hkn k)).1, fun k => (Classical.choose (hkn k)).2), ((s.heap.size, b), (cI, cQ))) : pz_D) = G
  have g1 : G.2.1.1 = s.heap.size := by rw [← hG]
  have g2 : G.2.1.2 = b := by rw [← hG]
  have hK : va_K G.1 px_cl [(G.2.2.1, .int), (G.2.2.2, .object RX3)] s := by
    rw [← hG]
    refine ⟨fun k q hq => ?_, fun k q hq => ?_⟩
    · have hk : k < 10 := (List.getElem?_eq_some_iff.mp hq).1
      have hq2 := (px_clat hk).symm.trans hq
      cases hq2
      exact Classical.choose_spec (hkn k) hk
    · have hk : k < 2 := (List.getElem?_eq_some_iff.mp hq).1
      rcases (show k = 0 ∨ k = 1 by omega) with rfl | rfl
      · cases hq
        exact ⟨fun n z => ⟨fun k h => (by cases h), kI, a2, comp, a3⟩, a1⟩
      · cases hq
        exact ⟨fun n z => ⟨fun k h => (by cases h), kQ, b3, compQ, b4⟩, kQ, compQ, b3, b4, b1, b5⟩
  have hU : pz_U G s := by
    refine ⟨hK, fun w hw => ?_, va_Nw.of rfl (hts _ px_w_cl.2.2.2.2), va_AO.of (hts _ px_w_arr.2.1)⟩
    have h1 := List.mem_filter.mp hw
    have h2 := h1.2
    have h3 := hts w h1.1
    cases w <;> first | exact va_Nw.of rfl h3 | (simp at h2; done)
  have C : pz_Cx p room_1 s m #[Value.ref b] meth c G (xs, L) 116 := by
    refine ⟨⟨hx, hb, hml, hown⟩, fun w hw => hts w (List.mem_filter.mp hw).1, hU, ⟨by rw [g1, g2]; exact hbl, by rw [g1]; exact Nat.le_refl _, by rw [g2]; exact hX⟩, ⟨hlocks, fun hz => ?_, hr⟩, Nat.le_of_ble_eq_true rfl, Nat.le_of_ble_eq_true rfl⟩
    exact absurd hz (by decide +kernel)
  have key := pz_sim l (xs, L) n 116 0 (pz_in 12 [.retAddr 0]) [] pz_h0 (some (.int 1)) h' hr1 p e room_1 s m #[Value.ref b] below meth c (lw_Z below #[Value.ref b] s) G 0 0 C (by show h'.2.1 ≤ 0 + 600000; omega) (by show h'.2.2 ≤ 0 + 7302250; omega) ?_
  · rw [lg_entry_eq]
    refine key s.heap _ [] 0 0 ⟨⟨by rw [g1]; rfl, fun i hi => absurd hi (Nat.not_lt_zero i)⟩, fun _ _ => rfl, ?_, fun q hq => by cases hq⟩ rfl rfl
    have h1 := pz_entry G [.retAddr 0] (n := 12) (Nat.le_of_ble_eq_true rfl)
    have h2 : [Value.retAddr 0].map (pz_v G.2.1.1 G.2.1.2) = [Value.ref b] := by show [Value.ref G.2.1.2] = _; rw [g2]
    rw [h2] at h1
    exact h1
  · intro pc' L' st' k hk hs H ls locs cells slots Z hc hs2
    have hdg := px_dec hk
    have hln := px_len hk
    obtain ⟨i, len, x1, x2, x3⟩ := k
    have hc1 : cells ≤ 600000 := by have : 0 + cells = h'.2.1 := hc; omega
    have hs1 : slots ≤ 7302250 := by have : 0 + slots = h'.2.2 := hs2; omega
    rcases pz_r_step hs with ⟨e1, x, rfl, hv, t, ht, hf⟩ | ⟨e1, x, rfl, hv, t, ht, hf⟩ | ⟨e1, w, hw, rfl, hv, t, ht, hf⟩ | ⟨e1, rfl, hv, ht⟩
    · have e1 : i = .ireturn := e1
      subst e1
      have hl1 : len = 1 := by simpa [pz_ln] using hln
      subst hl1
      cases hv
      refine va_forget (fun q hq => by rw [← g1]; exact Z.2.2.2 q hq) ?_
      refine W.widen hc1 hs1 ?_
      exact lw_ret hx hb hr hlocks hdg
    · cases hv
    · rcases hw with rfl | ⟨a, rfl⟩ <;> cases hv
    · cases hv
