section PZ6
variable {p : Program} {l : Launch} {e : Env} {R : Room} {s : State} {m : MethodId} {args : Array Value} {below : List Frame} {meth : Method} {c : Code} {Q : State → Prop} {G : pz_D} {S : (Nat → Int32) × Nat} {mi n0 m0 : Nat} {pc : Nat} {L : pz_L} {st : List Value} {h : pz_H} {q : Nat × (pz_L × (List Value × pz_H))}
theorem pz_r_call {a n : Nat} {v : Option Value} (hs : pz_call a n st = some (.inr (.inl v))) : False := by
  unfold pz_call at hs
  split at hs <;> cases hs
theorem pz_r_isp {a b : Nat} {v : Option Value} (hs : pz_isp a b pc L st h = some (.inr (.inl v))) : False := by
  unfold pz_isp at hs
  split at hs
  · split at hs
    · split at hs
      · exact pz_nf hs
      · cases hs
    · cases hs
  · split at hs
    · exact (pz_r_call hs).elim
    · cases hs
theorem pz_r_ivi {a b : Nat} {v : Option Value} (hs : pz_ivi a b pc L st h = some (.inr (.inl v))) : False := by
  unfold pz_ivi at hs
  split at hs
  · split at hs
    · obtain ⟨_, _, hs⟩ := Option.bind_eq_some_iff.mp hs
      split at hs
      · exact pz_nf hs
      · cases hs
    · cases hs
  · split at hs
    · split at hs
      · exact (pz_r_call hs).elim
      · cases hs
    · cases hs
theorem pz_r_iss {a b : Nat} {v : Option Value} (hs : pz_ist_ a b pc L st h = some (.inr (.inl v))) : False := by
  unfold pz_ist_ at hs
  split at hs
  · exact pz_n_cpy hs
  · split at hs
    · exact pz_n_mx _ hs
    · split at hs
      · exact pz_n_mx _ hs
      · exact (pz_r_call hs).elim
theorem pz_r_ret {rt : Option FieldType} {w : Value} {v : Option Value} (hs : pz_ret rt w st = some (.inr (.inl v))) : st = [] ∧ v = some w ∧ ∃ t, rt = some t ∧ pz_fit t w = true := by
  unfold pz_ret at hs
  split at hs
  · split at hs
    · rename_i t hf
      cases hs
      exact ⟨rfl, rfl, _, rfl, hf⟩
    · cases hs
  · cases hs
theorem pz_r_step {rt : Option FieldType} {k : px_K} {v : Option Value} (hs : pz_step S rt k pc L st h = some (.inr (.inl v))) :
    (k.1 = .ireturn ∧ ∃ x, st = [.int x] ∧ v = some (.int x) ∧ ∃ t, rt = some t ∧ pz_fit t (.int x) = true) ∨
    (k.1 = .lreturn ∧ ∃ x, st = [.long x] ∧ v = some (.long x) ∧ ∃ t, rt = some t ∧ pz_fit t (.long x) = true) ∨
    (k.1 = .areturn ∧ ∃ w, (w = .null ∨ ∃ a, w = .ref a) ∧ st = [w] ∧ v = some w ∧ ∃ t, rt = some t ∧ pz_fit t w = true) ∨
    (k.1 = .return_ ∧ st = [] ∧ v = none ∧ rt = none) := by
  unfold pz_step at hs
  split at hs
  · exact pz_nf hs
  · exact pz_nf hs
  · exact pz_nf hs
  · exact pz_nf hs
  · exact pz_nf hs
  · exact pz_nf hs
  · exact pz_nf hs
  · exact pz_nf hs
  · exact (pz_n_ild _ _ hs).elim
  · exact (pz_n_ild _ _ hs).elim
  · exact (pz_n_lld _ _ hs).elim
  · exact (pz_n_lld _ _ hs).elim
  · exact (pz_n_ald _ _ hs).elim
  · exact (pz_n_ald _ _ hs).elim
  · exact (pz_n_ist _ _ hs).elim
  · exact (pz_n_ist _ _ hs).elim
  · exact (pz_n_lst _ _ hs).elim
  · exact (pz_n_lst _ _ hs).elim
  · exact (pz_n_ast _ _ hs).elim
  · exact (pz_n_ast _ _ hs).elim
  · split at hs
    · obtain ⟨L2, h1, hs⟩ := Option.bind_eq_some_iff.mp hs
      exact pz_nf hs
    · cases hs
  · exact (pz_n_i2 _ hs).elim
  · exact (pz_n_i2 _ hs).elim
  · exact (pz_n_i2 _ hs).elim
  · exact (pz_n_i2 _ hs).elim
  · exact (pz_n_i2 _ hs).elim
  · exact (pz_n_i2 _ hs).elim
  · exact (pz_n_i2 _ hs).elim
  · exact (pz_n_i2 _ hs).elim
  · exact (pz_n_i2 _ hs).elim
  · exact (pz_n_i2 _ hs).elim
  · exact (pz_n_l2 _ hs).elim
  · exact (pz_n_l2 _ hs).elim
  · exact (pz_n_l2 _ hs).elim
  · exact (pz_n_l2 _ hs).elim
  · exact (pz_n_l2 _ hs).elim
  · split at hs
    · exact pz_nf hs
    · cases hs
  · split at hs
    · exact pz_nf hs
    · cases hs
  · split at hs
    · exact pz_nf hs
    · cases hs
  · split at hs
    · split at hs
      · exact pz_nf hs
      · cases hs
    · cases hs
  · split at hs
    · split at hs
      · exact pz_nf hs
      · cases hs
    · cases hs
  · exact (pz_n_jp _ hs).elim
  · split at hs
    · exact (pz_n_br _ _ hs).elim
    · cases hs
  · split at hs
    · exact (pz_n_br _ _ hs).elim
    · cases hs
  · split at hs
    · exact (pz_n_jp _ hs).elim
    · exact pz_nf hs
    · cases hs
  · split at hs
    · split at hs
      · exact (pz_n_jp _ hs).elim
      · cases hs
    · cases hs
  · split at hs
    · split at hs
      · exact (pz_n_jp _ hs).elim
      · obtain ⟨o, h1, hs⟩ := Option.bind_eq_some_iff.mp hs
        exact (pz_n_jp _ hs).elim
    · cases hs
  · exact (pz_n_iald _ hs).elim
  · exact (pz_n_iast hs).elim
  · exact (pz_n_aald hs).elim
  · exact (pz_n_aast hs).elim
  · exact (pz_n_alen _ hs).elim
  · exact (pz_n_getf _ _ hs).elim
  · exact (pz_n_putf _ _ hs).elim
  · exact pz_nf hs
  · exact (pz_n_newa hs).elim
  · exact (pz_n_newq hs).elim
  · split at hs
    · obtain ⟨o, h1, hs⟩ := Option.bind_eq_some_iff.mp hs
      exact pz_nf hs
    · cases hs
  · exact (pz_r_isp hs).elim
  · exact (pz_r_ivi hs).elim
  · exact (pz_r_iss hs).elim
  · rename_i hk
    split at hs
    · obtain ⟨rfl, rfl, h3⟩ := pz_r_ret hs
      exact Or.inl ⟨hk, _, rfl, rfl, h3⟩
    · cases hs
  · rename_i hk
    split at hs
    · obtain ⟨rfl, rfl, h3⟩ := pz_r_ret hs
      exact Or.inr (Or.inl ⟨hk, _, rfl, rfl, h3⟩)
    · cases hs
  · rename_i hk
    split at hs
    · obtain ⟨rfl, rfl, h3⟩ := pz_r_ret hs
      exact Or.inr (Or.inr (Or.inl ⟨hk, _, Or.inr ⟨_, rfl⟩, rfl, rfl, h3⟩))
    · obtain ⟨rfl, rfl, h3⟩ := pz_r_ret hs
      exact Or.inr (Or.inr (Or.inl ⟨hk, _, Or.inl rfl, rfl, rfl, h3⟩))
    · cases hs
  · rename_i hk
    split at hs
    · cases hs
      exact Or.inr (Or.inr (Or.inr ⟨hk, rfl, rfl, rfl⟩))
    · cases hs
  · cases hs
theorem pz_call_spec {a n : Nat} {y : Nat × (List Value × List Value)} (hs : pz_call a n st = some (.inr (.inr y))) : y.1 = a ∧ n ≤ st.length ∧ y.2.1 = (st.take n).reverse ∧ y.2.2 = st.drop n ∧ pz_sum y.2.2 ≤ 8 ∧ (pz_sl y.2.1).length ≤ px_ml a := by
  unfold pz_call at hs
  split at hs
  · rename_i e
    simp only [Bool.and_eq_true] at e
    cases hs
    exact ⟨rfl, Nat.le_of_ble_eq_true e.1.1, rfl, rfl, Nat.le_of_ble_eq_true e.1.2, Nat.le_of_ble_eq_true e.2⟩
  · cases hs
theorem pz_call_s {a n : Nat} {y : Nat × (List Value × List Value)} (hs : pz_call a n st = some (.inr (.inr y))) : y.1 = a ∧ y.2.1.length = n ∧ st = y.2.1.reverse ++ y.2.2 ∧ pz_sum y.2.2 ≤ 8 ∧ (pz_sl y.2.1).length ≤ px_ml a := by
  obtain ⟨h1, h2, h3, h4, h5, h6⟩ := pz_call_spec hs
  refine ⟨h1, by rw [h3, List.length_reverse, List.length_take]; omega, by rw [h3, h4, List.reverse_reverse, List.take_append_drop], h5, h6⟩
theorem pz_call_i {a b : Nat} {y : Nat × (List Value × List Value)} {i : Nat} {tl : List Value} (hd : st.drop b = .ref i :: tl) (hs : pz_call a (b + 1) st = some (.inr (.inr y))) : y.1 = a ∧ ∃ as, y.2.1 = .ref i :: as ∧ as.length = b ∧ st = as.reverse ++ .ref i :: y.2.2 ∧ pz_sum y.2.2 ≤ 8 ∧ (pz_sl y.2.1).length ≤ px_ml a := by
  obtain ⟨h1, h2, h3, h4, h5, h6⟩ := pz_call_spec hs
  have e1 : st = st.take b ++ .ref i :: tl := by rw [← hd, List.take_append_drop]
  have hb : (st.take b).length = b := by rw [List.length_take]; omega
  have e2 : st.take (b + 1) = st.take b ++ [.ref i] := by rw [List.take_add_one, ← List.head?_drop, hd]; rfl
  have e3 : st.drop (b + 1) = tl := by rw [← List.drop_drop, hd]; rfl
  refine ⟨h1, (st.take b).reverse, by rw [h3, e2]; simp, by rw [List.length_reverse, hb], by rw [List.reverse_reverse, h4, e3]; exact e1, h5, h6⟩
theorem pz_pre {H : Heap} {U : State} (C2 : pz_U G s) (C3 : pz_B G S s) {ls : Array Slot} {locs : List Loc} (Z : pz_Z G s mi h H L ls locs) (hU : U.heap = H) (hW : s.WarmedH U.vm) : pz_R G h U.heap ∧ pz_U G U ∧ pz_B G S U := by
  refine ⟨by rw [hU]; exact Z.1, pz_U.warm hW C2, C3.1, by rw [hU, Z.1.1]; exact Nat.le_add_right _ _, ?_⟩
  rw [hU]
  exact va_X.moved hW.alike (va_X.kept C3.2.2 (Z.2.1 _ C3.1))
end PZ6
def pz_rm (a : Nat) (h h' : pz_H) : Room := { frames := px_fr a, cells := h'.2.1 - h.2.1, slots := h'.2.2 - h.2.2, locals := px_lo a }
def pz_Ih (l : Launch) (S : (Nat → Int32) × Nat) (n : Nat) : Prop := ∀ (mi pc : Nat) (L : pz_L) (st : List Value) (h : pz_H) (v : Option Value) (h' : pz_H), pz_run S n mi pc L st h = some (v, h') →
  ∀ (p : Program) (e : Env) (R : Room) (s : State) (m : MethodId) (args : Array Value) (below : List Frame) (meth : Method) (c : Code) (Q : State → Prop) (G : pz_D) (n0 m0 : Nat), pz_Cx p R s m args meth c G S mi → h'.2.1 ≤ n0 + R.cells → h'.2.2 ≤ m0 + R.slots →
  (∀ (pc' : Nat) (L' : pz_L) (st' : List Value) (k : px_K), px_at mi pc' = some k → pz_step S (px_rt mi) k pc' L' st' h' = some (.inr (.inl v)) → pz_Go p l e R s m args below meth c Q G mi n0 m0 (pc', L', st', h')) → pz_Go p l e R s m args below meth c Q G mi n0 m0 (pc, L, st, h)
theorem pz_met {l : Launch} {S : (Nat → Int32) × Nat} {n : Nat} (ih : pz_Ih l S n) {G : pz_D} {a : Nat} (ha : a < 116) {as : List Value} {h h' : pz_H} {v : Option Value} (hl : (pz_sl as).length ≤ px_ml a) (hr : pz_run S n a 0 (pz_in (px_ml a) as) [] h = some (v, h')) :
    Met l (px_y a) (px_ws a) (pz_rm a h h') (pz_Pc G S as h) (pz_Qc G v h') (h'.2.1 - h.2.1) (h'.2.2 - h.2.2) (fun q => G.2.1.1 ≤ q) := by
  have hle := pz_m_run S n _ _ _ _ _ _ _ hr
  obtain ⟨k1, k2, k3, k4, k5, k6, k7⟩ := px_mkk ha
  refine Met.ofW (cc := px_c a) (maxL := px_ml a) (ret := px_rt a) k6 rfl ?_
  intro p e s m args below meth c s₁ B hml hv
  obtain ⟨rfl, hR, hU, hB⟩ := hv
  have hts := atoms_spec (ws := px_ws a) B.pre
  have hown : s.vm.findClass (px_R (px_o a)) = some m.cls := by rw [← k7]; exact findClass_of_methodNamed B.named
  have C : pz_Cx p (pz_rm a h h') s m (as.map (pz_v G.2.1.1 G.2.1.2)).toArray meth c G S a := ⟨⟨B.exec, B.bytes, hml, hown⟩, fun w hw => hts w (List.mem_cons_of_mem _ hw), hU, hB, ⟨B.notSynchronized, fun hz => (name_of_methodNamed B.named B.method).1.trans hz, B.returns⟩, Nat.le_refl _, Nat.le_refl _⟩
  have hlk := B.notSynchronized
  have key := ih a 0 (pz_in (px_ml a) as) [] h v h' hr p e (pz_rm a h h') s m (as.map (pz_v G.2.1.1 G.2.1.2)).toArray below meth c (MQ below (pz_Qc G v h') (as.map (pz_v G.2.1.1 G.2.1.2)).toArray s (h'.2.1 - h.2.1) (h'.2.2 - h.2.2) (fun q => G.2.1.1 ≤ q)) G h.2.1 h.2.2 C (by show h'.2.1 ≤ h.2.1 + (h'.2.1 - h.2.1); omega) (by show h'.2.2 ≤ h.2.2 + (h'.2.2 - h.2.2); omega) ?_
  · rw [lg_entry_eq]
    exact key s.heap _ [] 0 0 ⟨hR, fun _ _ => rfl, pz_entry G as hl, fun q hq => by cases hq⟩ rfl rfl
  · intro pc' L' st' k hk hs H ls locs cells slots Z hc hs2
    have hc' : cells = h'.2.1 - h.2.1 := by have : h.2.1 + cells = h'.2.1 := hc; omega
    have hs' : slots = h'.2.2 - h.2.2 := by have : h.2.2 + slots = h'.2.2 := hs2; omega
    subst hc'; subst hs'
    have hdg := px_dec hk
    have hln := px_len hk
    have hq : ∀ w : Option Value, v = w → ∀ t : State, t.heap = H → pz_Qc G v h' (as.map (pz_v G.2.1.1 G.2.1.2)).toArray s (.returned (w.map (pz_v G.2.1.1 G.2.1.2))) t := fun w hw t ht => ⟨by rw [hw], by rw [ht]; exact Z.1, by rw [ht]; exact Z.2.1⟩
    obtain ⟨i, len, x1, x2, x3⟩ := k
    rcases pz_r_step hs with ⟨e1, x, rfl, hv, t, ht, hf⟩ | ⟨e1, x, rfl, hv, t, ht, hf⟩ | ⟨e1, w, hw, rfl, hv, t, ht, hf⟩ | ⟨e1, rfl, hv, ht⟩
    · have e1 : i = .ireturn := e1
      subst e1
      have hl1 : len = 1 := by simpa [pz_ln] using hln
      subst hl1
      exact W.zret (ty := t) B.exec B.bytes (B.returns.trans ht) (pz_fits (G := G) hf).1 (fun u hu _ => hq _ hv u hu) Z.2.2.2 hdg hlk
    · have e1 : i = .lreturn := e1
      subst e1
      have hl1 : len = 1 := by simpa [pz_ln] using hln
      subst hl1
      have hty : t = .long := by cases t <;> first | rfl | cases hf
      subst hty
      exact W.lret B.exec B.bytes (B.returns.trans ht) (fun u hu _ => hq _ hv u hu) Z.2.2.2 hdg hlk
    · have e1 : i = .areturn := e1
      subst e1
      have hl1 : len = 1 := by simpa [pz_ln] using hln
      subst hl1
      have hty : (∃ n, t = .object n) ∨ ∃ u, t = .array u := by
        rcases hw with rfl | ⟨b, rfl⟩ <;> cases t <;> first | exact Or.inl ⟨_, rfl⟩ | exact Or.inr ⟨_, rfl⟩ | cases hf
      refine W.aret (rt := t) B.exec B.bytes (B.returns.trans ht) hty ?_ (fun u hu _ => hq _ hv u hu) Z.2.2.2 hdg hlk
      rcases hw with rfl | ⟨b, rfl⟩
      · exact Or.inl rfl
      · exact Or.inr ⟨_, rfl⟩
    · have e1 : i = .return_ := e1
      subst e1
      have hl1 : len = 1 := by simpa [pz_ln] using hln
      subst hl1
      exact W.vret B.exec B.bytes (B.returns.trans ht) (fun u hu _ => hq _ hv u hu) Z.2.2.2 hdg hlk
theorem pz_sim (l : Launch) (S : (Nat → Int32) × Nat) : ∀ n, pz_Ih l S n := by
  intro n
  induction n with
  | zero => intro mi pc L st h v h' hr; cases hr
  | succ n ih =>
    intro mi pc L st h v h' hr p e R s m args below meth c Q G n0 m0 C hr1 hr2 hret
    unfold pz_run at hr
    split at hr
    · cases hr
    · rename_i k hk
      split at hr
      · cases hr
      · rename_i q hs
        have hle := pz_m_run S n _ _ _ _ _ _ _ hr
        exact pz_sim1 C hk hs (Nat.le_trans hle.1 hr1) (Nat.le_trans hle.2 hr2) (ih mi q.1 q.2.1 q.2.2.1 q.2.2.2 v h' hr p e R s m args below meth c Q G n0 m0 C hr1 hr2 hret)
      · rename_i w hs
        cases hr
        exact hret pc L st k hk hs
      · rename_i y hs
        split at hr
        · cases hr
        · rename_i u hu
          obtain ⟨v1, h1⟩ := u
          have hle1 := pz_m_run S n _ _ _ _ _ _ _ hu
          have hle2 : pz_le h1 h' := pz_m_run S n _ _ _ _ _ _ _ hr
          have kk := ih mi (pc + 3) L (v1.toList ++ y.2.2) h1 v h' hr p e R s m args below meth c Q G n0 m0 C hr1 hr2 hret
          have hdg := px_dec hk
          have hln := px_len hk
          have hlk := px_lnk hk
          obtain ⟨⟨hx, hb, hml, hown⟩, hts, C2, C3, ⟨hlk2, hnm, hrt⟩, hfr, hlo⟩ := id C
          obtain ⟨i, len, a, b, z⟩ := k
          have fin : ∀ {H : Heap} {ls : Array Slot} {locs : List Loc} {cells slots : Nat} {st0 : List Value} {w : Array Value}, n0 + cells = h.2.1 → m0 + slots = h.2.2 → pz_Z G s mi h H L ls locs → va_Run p l e R s m args below meth c H locs cells slots (h1.2.1 - h.2.1) (h1.2.2 - h.2.2) (F0 m pc ls st0) (y.2.2.map (pz_v G.2.1.1 G.2.1.2)) (pz_Qc G v1 h1 w) (fun q => G.2.1.1 ≤ q) → W p l e R s m args below meth c H locs cells slots Q (F0 m pc ls st0) := by
            intro H ls locs cells slots st0 w hc hs2 Z hrun
            exact pz_back Z hrun (by have := hle1.1; omega) (by have := hle1.2; omega) kk
          have hroom : ∀ {cells slots : Nat}, n0 + cells = h.2.1 → m0 + slots = h.2.2 → cells + (h1.2.1 - h.2.1) ≤ R.cells ∧ slots + (h1.2.2 - h.2.2) ≤ R.slots := by
            intro cells slots hc hs2
            have g1 := hle1.1; have g2 := hle1.2; have g3 := hle2.1; have g4 := hle2.2
            omega
          rcases pz_n_step hs with ⟨j, e1, hc⟩ | ⟨j, e1, hc⟩ | ⟨j, e1, hc⟩
          · have e1 : i = .invokespecial j := e1
            subst e1
            have hl1 : len = 3 := by simpa [pz_ln] using hln
            subst hl1
            have hc : pz_isp a b pc L st h = some (.inr (.inr y)) := hc
            unfold pz_isp at hc
            have hk2 : (if a = 1000 then px_xk mi j 1000 else px_jk mi j (.invokespecial j, 3, a, b, z) && (px_ms a).2.1 == 0 && decide ((px_y a).name = "<init>") && decide (px_rt a = none)) = true := hlk
            by_cases ha : a = 1000
            · rw [if_pos ha] at hc
              split at hc
              · split at hc
                · exact pz_nf hc
                · cases hc
              · cases hc
            · rw [if_neg ha] at hc hk2
              simp only [Bool.and_eq_true, decide_eq_true_eq, beq_iff_eq] at hk2
              obtain ⟨⟨⟨j1, j2⟩, j3⟩, j4⟩ := hk2
              obtain ⟨f1, f2, f3, f4, f5⟩ := px_jkk j1
              split at hc
              · rename_i ri tl hd
                obtain ⟨g1, as, g2, g3, g4, g5, g6⟩ := pz_call_i hd hc
                obtain ⟨k1, k2, k3, k4, k5, k6, k7⟩ := px_mkk f1
                rw [g1] at hu
                have hM := pz_met ih (G := G) f1 g6 hu
                rw [g2] at hM
                intro H ls locs cells slots Z hc1 hs2
                have hstk : (F0 m pc ls (st.map (pz_v G.2.1.1 G.2.1.2))).stack = (as.map (pz_v G.2.1.1 G.2.1.2)).reverse ++ .ref (G.2.1.1 + ri) :: y.2.2.map (pz_v G.2.1.1 G.2.1.2) := by
                  show st.map (pz_v G.2.1.1 G.2.1.2) = _
                  rw [g4]; simp [pz_v]
                have hw : px_ws a = Cond.code (px_y a) (px_c a) (px_ml a) none :: px_gt := by show Cond.code (px_y a) (px_c a) (px_ml a) (px_rt a) :: px_gt = _; rw [j4]
                rcases f5 with f5 | f5
                · exact fin hc1 hs2 Z (va_runI (As := as.map (pz_v G.2.1.1 G.2.1.2)) (b := G.2.1.1 + ri) (rest := y.2.2.map (pz_v G.2.1.1 G.2.1.2)) ⟨hx, hb, hml, hown, hts⟩ hM ⟨callB_of (px_np a) hts (px_wsg f1) hw rfl rfl (hts _ k1) (hts _ f5) k5 ⟨Nat.le_trans f3 hfr, Nat.le_trans f4 hlo⟩, j3, hts _ (k3 j2)⟩ ⟨pz_blind _, fun U hU hW => ⟨rfl, pz_pre C2 C3 Z hU hW⟩⟩ rfl (by rw [List.length_map, g3]; exact f2) Z.2.2.1.2.1 hstk (by rw [pz_vsum]; show 2 * 0 + _ ≤ 8; omega) hdg (hroom hc1 hs2))
                · exact fin hc1 hs2 Z (va_runIN (As := as.map (pz_v G.2.1.1 G.2.1.2)) (b := G.2.1.1 + ri) (rest := y.2.2.map (pz_v G.2.1.1 G.2.1.2)) ⟨hx, hb, hml, hown, hts⟩ hM ⟨va_cnB (px_np a) hts (px_wsg f1) hw rfl rfl (C2.2.1 _ f5) (hts _ k1) k5 ⟨Nat.le_trans f3 hfr, Nat.le_trans f4 hlo⟩, j3, hts _ (k3 j2)⟩ ⟨pz_blind _, fun U hU hW => ⟨rfl, pz_pre C2 C3 Z hU hW⟩⟩ rfl (by rw [List.length_map, g3]; exact f2) Z.2.2.1.2.1 hstk (by rw [pz_vsum]; show 2 * 0 + _ ≤ 8; omega) hdg (hroom hc1 hs2))
              · cases hc
          · have e1 : i = .invokevirtual j := e1
            subst e1
            have hl1 : len = 3 := by simpa [pz_ln] using hln
            subst hl1
            have hc : pz_ivi a b pc L st h = some (.inr (.inr y)) := hc
            unfold pz_ivi at hc
            have hk2 : (if a = 1002 then px_xk mi j 1002 else px_jk mi j (.invokevirtual j, 3, a, b, z) && (px_ms a).2.1 == 0 && !((px_ms a).2.2.2.1 == 9999) && Nat.blt (px_o a) 10) = true := hlk
            by_cases ha : a = 1002
            · rw [if_pos ha] at hc
              split at hc
              · obtain ⟨_, _, hc⟩ := Option.bind_eq_some_iff.mp hc
                split at hc
                · exact pz_nf hc
                · cases hc
              · cases hc
            · rw [if_neg ha] at hc hk2
              simp only [Bool.and_eq_true, Bool.not_eq_true'] at hk2
              obtain ⟨⟨⟨j1, j2⟩, j3⟩, j4⟩ := hk2
              have j4 : px_o a < 10 := Nat.le_of_ble_eq_true j4
              obtain ⟨f1, f2, f3, f4, f5⟩ := px_jkk j1
              split at hc
              · rename_i ri tl hd
                split at hc
                · rename_i hob
                  obtain ⟨fs, hob⟩ := Option.isSome_iff_exists.mp hob
                  obtain ⟨o1, o2⟩ := pz_obj_spec hob
                  obtain ⟨g1, as, g2, g3, g4, g5, g6⟩ := pz_call_i hd hc
                  obtain ⟨k1, k2, k3, k4, k5, k6, k7⟩ := px_mkk f1
                  rw [g1] at hu
                  have hM := pz_met ih (G := G) f1 g6 hu
                  rw [g2] at hM
                  intro H ls locs cells slots Z hc1 hs2
                  have hstk : (F0 m pc ls (st.map (pz_v G.2.1.1 G.2.1.2))).stack = (as.map (pz_v G.2.1.1 G.2.1.2)).reverse ++ .ref (G.2.1.1 + ri) :: y.2.2.map (pz_v G.2.1.1 G.2.1.2) := by
                    show st.map (pz_v G.2.1.1 G.2.1.2) = _
                    rw [g4]; simp [pz_v]
                  have hrc : ∃ cell : Cell, H[G.2.1.1 + ri]? = some cell ∧ cell.vm.isStatics = false ∧ s.vm.findClass (px_y a).cls = some cell.cls := by
                    rw [k7]
                    exact va_recv C2.1 (pz_one Z.1 o1 o2) (ci := px_o a) (q0 := 0) (px_clat j4) rfl
                  rcases f5 with f5 | f5
                  · exact fin hc1 hs2 Z (va_runV (As := as.map (pz_v G.2.1.1 G.2.1.2)) (b := G.2.1.1 + ri) (C := (px_y a).cls) (rest := y.2.2.map (pz_v G.2.1.1 G.2.1.2)) ⟨hx, hb, hml, hown, hts⟩ hM ⟨callB_of (px_np a) hts (px_wsg f1) rfl rfl rfl (hts _ k1) (hts _ f5) k5 ⟨Nat.le_trans f3 hfr, Nat.le_trans f4 hlo⟩, hts _ (k3 (beq_iff_eq.mp j2)), hts _ (k4 j3)⟩ ⟨pz_blind _, hrc, fun U hU hW => ⟨rfl, pz_pre C2 C3 Z hU hW⟩⟩ rfl (by rw [List.length_map, g3]; exact f2) Z.2.2.1.2.1 hstk (by rw [pz_vsum]; show 2 * 0 + _ ≤ 8; omega) hdg (hroom hc1 hs2))
                  · exact fin hc1 hs2 Z (va_runVN (As := as.map (pz_v G.2.1.1 G.2.1.2)) (b := G.2.1.1 + ri) (C := (px_y a).cls) (rest := y.2.2.map (pz_v G.2.1.1 G.2.1.2)) ⟨hx, hb, hml, hown, hts⟩ hM ⟨va_cnB (px_np a) hts (px_wsg f1) rfl rfl rfl (C2.2.1 _ f5) (hts _ k1) k5 ⟨Nat.le_trans f3 hfr, Nat.le_trans f4 hlo⟩, hts _ (k3 (beq_iff_eq.mp j2)), hts _ (k4 j3)⟩ ⟨pz_blind _, hrc, fun U hU hW => ⟨rfl, pz_pre C2 C3 Z hU hW⟩⟩ rfl (by rw [List.length_map, g3]; exact f2) Z.2.2.1.2.1 hstk (by rw [pz_vsum]; show 2 * 0 + _ ≤ 8; omega) hdg (hroom hc1 hs2))
                · cases hc
              · cases hc
          · have e1 : i = .invokestatic j := e1
            subst e1
            have hl1 : len = 3 := by simpa [pz_ln] using hln
            subst hl1
            have hc : pz_ist_ a b pc L st h = some (.inr (.inr y)) := hc
            unfold pz_ist_ at hc
            have hk2 : (if a = 1001 then px_xk mi j 1001 else if a = 1003 then px_xk mi j 1003 else if a = 1004 then px_xk mi j 1004 else px_jk mi j (.invokestatic j, 3, a, b, z) && (px_ms a).2.1 == 1) = true := hlk
            by_cases ha : a = 1001
            · rw [if_pos ha] at hc
              exact (pz_n_cpy hc).elim
            · rw [if_neg ha] at hc hk2
              by_cases ha : a = 1003
              · rw [if_pos ha] at hc
                exact (pz_n_mx _ hc).elim
              · rw [if_neg ha] at hc hk2
                by_cases ha : a = 1004
                · rw [if_pos ha] at hc
                  exact (pz_n_mx _ hc).elim
                · rw [if_neg ha] at hc hk2
                  simp only [Bool.and_eq_true, beq_iff_eq] at hk2
                  obtain ⟨j1, j2⟩ := hk2
                  obtain ⟨f1, f2, f3, f4, f5⟩ := px_jkk j1
                  obtain ⟨g1, g3, g4, g5, g6⟩ := pz_call_s hc
                  obtain ⟨k1, k2, k3, k4, k5, k6, k7⟩ := px_mkk f1
                  rw [g1] at hu
                  have hM := pz_met ih (G := G) f1 g6 hu
                  intro H ls locs cells slots Z hc1 hs2
                  have hstk : (F0 m pc ls (st.map (pz_v G.2.1.1 G.2.1.2))).stack = (y.2.1.map (pz_v G.2.1.1 G.2.1.2)).reverse ++ y.2.2.map (pz_v G.2.1.1 G.2.1.2) := by
                    show st.map (pz_v G.2.1.1 G.2.1.2) = _
                    rw [← List.map_reverse, ← List.map_append, ← g4]
                  rcases f5 with f5 | f5
                  · exact fin hc1 hs2 Z (va_runS (As := y.2.1.map (pz_v G.2.1.1 G.2.1.2)) (rest := y.2.2.map (pz_v G.2.1.1 G.2.1.2)) ⟨hx, hb, hml, hown, hts⟩ hM ⟨callB_of (px_np a) hts (px_wsg f1) rfl rfl rfl (hts _ k1) (hts _ f5) k5 ⟨Nat.le_trans f3 hfr, Nat.le_trans f4 hlo⟩, hts _ (k2 j2)⟩ ⟨pz_blind _, fun U hU hW => ⟨rfl, pz_pre C2 C3 Z hU hW⟩⟩ rfl (by rw [List.length_map, g3]; exact f2) Z.2.2.1.2.1 hstk (by rw [pz_vsum]; show 2 * 0 + _ ≤ 8; omega) hdg (hroom hc1 hs2))
                  · exact fin hc1 hs2 Z (va_runSN (As := y.2.1.map (pz_v G.2.1.1 G.2.1.2)) (rest := y.2.2.map (pz_v G.2.1.1 G.2.1.2)) ⟨hx, hb, hml, hown, hts⟩ hM ⟨va_cnB (px_np a) hts (px_wsg f1) rfl rfl rfl (C2.2.1 _ f5) (hts _ k1) k5 ⟨Nat.le_trans f3 hfr, Nat.le_trans f4 hlo⟩, hts _ (k2 j2), trivial⟩ ⟨pz_blind _, fun U hU hW => ⟨rfl, pz_pre C2 C3 Z hU hW⟩⟩ rfl (by rw [List.length_map, g3]; exact f2) Z.2.2.1.2.1 hstk (by rw [pz_vsum]; show 2 * 0 + _ ≤ 8; omega) hdg (hroom hc1 hs2))
