section PZ2
variable {p : Program} {l : Launch} {e : Env} {R : Room} {s : State} {m : MethodId} {args : Array Value} {below : List Frame} {meth : Method} {c : Code} {Q : State → Prop} {G : pz_D} {S : (Nat → Int32) × Nat} {mi n0 m0 : Nat} {pc : Nat} {L : pz_L} {st : List Value} {h : pz_H} {q : Nat × (pz_L × (List Value × pz_H))}
theorem pz_ixs {x : Int32} {n : Nat} (h : pz_ixd x n = true) : vp_in x n := by
  unfold pz_ixd at h
  simp only [Bool.and_eq_true, Bool.not_eq_true', decide_eq_false_iff_not] at h
  have h2 : x.toNatClampNeg < n := Nat.le_of_ble_eq_true h.2
  intro z
  rcases z with z | z
  · exact h.1 z
  · omega
theorem pz_vrf (G : pz_D) (r : Option Nat) : pz_v G.2.1.1 G.2.1.2 (va_rf r) = va_rf (r.map fun z => G.2.1.1 + z) := by cases r <;> rfl
theorem pz_Zup {H H1 : Heap} {ls : Array Slot} {locs locs1 : List Loc} {i k : Nat} {e : pz_E} (Z : pz_Z G s mi h H L ls locs) (hi : i < h.2.1) (z : H1.size = H.size) (o : ∀ q, q ≠ G.2.1.1 + i → H1[q]? = H[q]?) (he : pz_at G i e H1) (hl : locs1 = locs ++ [⟨G.2.1.1 + i, k⟩]) : pz_Z G s mi (pz_up h i e) H1 L ls locs1 := by
  refine ⟨Z.1.up hi z o he, fun q hq => ?_, Z.2.2.1, fun q hq => ?_⟩
  · rw [o q (by omega)]
    exact Z.2.1 q hq
  · rw [hl] at hq
    rcases List.mem_append.mp hq with h1 | h1
    · exact Z.2.2.2 q h1
    · rw [List.mem_singleton.mp h1]
      exact Nat.le_add_right _ _
theorem pz_Znw {H H1 : Heap} {ls : Array Slot} {locs : List Loc} {e : pz_E} {n : Nat} (Z : pz_Z G s mi h H L ls locs) (hb : G.2.1.1 ≤ s.heap.size) (z : H1.size = H.size + 1) (o : ∀ q, q < H.size → H1[q]? = H[q]?) (he : va_at G.1 px_cl (H.size, pz_e G e) H1) : pz_Z G s mi (pz_nw h e n) H1 L ls locs := by
  refine ⟨Z.1.nw z o he, fun q hq => ?_, Z.2.2⟩
  rw [o q (by rw [Z.1.1]; omega)]
  exact Z.2.1 q hq

theorem pz_w_iald (C : pz_Cx p R s m args meth c G S mi) (hdg : decode (px_c mi) pc = .ok (.iaload, 1)) (hs : pz_iald S pc L st h = some (.inl q)) (kk : pz_Go p l e R s m args below meth c Q G mi n0 m0 q) : pz_Go p l e R s m args below meth c Q G mi n0 m0 (pc, L, st, h) := by
  obtain ⟨⟨hx, hb, hml, hown⟩, hts, ⟨hK, hN, hCa, hAO⟩, ⟨hbs, hbz, hX⟩, ⟨hlk, hnm, hrt⟩, hfr, hlo⟩ := C
  unfold pz_iald at hs
  split at hs
  · rename_i j i r
    obtain ⟨f, h1, h2⟩ := Option.bind_eq_some_iff.mp hs
    split at h2
    · rename_i hj
      obtain rfl := pz_gos h2
      obtain ⟨g1, g2⟩ := pz_arr_spec h1
      intro H ls locs cells slots Z hc hs2
      exact va_iald hx hb hK (pz_one Z.1 g1 g2) 0 0 rfl rfl (pz_ixs hj) hdg (kk H ls locs cells slots Z hc hs2)
    · cases h2
  · rename_i j x r
    split at hs
    · rename_i hj
      obtain rfl := pz_gos hs
      intro H ls locs cells slots Z hc hs2
      obtain ⟨scr, a1, a2, a3, a4, a5⟩ := hX
      have hj := pz_ixs hj
      have hlt : j.toNatClampNeg < S.2 := Nat.not_le.mp fun q => hj (Or.inr q)
      exact W.iald (v := .int (S.1 j.toNatClampNeg)) hx hb (by rw [Z.2.1 _ hbs]; exact a1) a2 a3 (by rw [a4]; exact hj) (a5 _ hlt) rfl rfl hdg (kk H ls locs cells slots Z hc hs2)
    · cases hs
  · cases hs
theorem pz_w_alen (C : pz_Cx p R s m args meth c G S mi) (hdg : decode (px_c mi) pc = .ok (.arraylength, 1)) (hs : pz_alen S pc L st h = some (.inl q)) (kk : pz_Go p l e R s m args below meth c Q G mi n0 m0 q) : pz_Go p l e R s m args below meth c Q G mi n0 m0 (pc, L, st, h) := by
  obtain ⟨⟨hx, hb, hml, hown⟩, hts, ⟨hK, hN, hCa, hAO⟩, ⟨hbs, hbz, hX⟩, ⟨hlk, hnm, hrt⟩, hfr, hlo⟩ := C
  unfold pz_alen at hs
  split at hs
  · rename_i i r
    obtain ⟨f, h1, h2⟩ := Option.bind_eq_some_iff.mp hs
    obtain rfl := pz_gos h2
    obtain ⟨g1, g2⟩ := pz_arr_spec h1
    intro H ls locs cells slots Z hc hs2
    exact va_alen hx hb hK (pz_one Z.1 g1 g2) 0 0 rfl rfl rfl hdg (kk H ls locs cells slots Z hc hs2)
  · rename_i x r
    obtain rfl := pz_gos hs
    intro H ls locs cells slots Z hc hs2
    obtain ⟨scr, a1, a2, a3, a4, a5⟩ := hX
    exact W.alen (n := Int32.ofNat S.2) hx hb (by rw [Z.2.1 _ hbs]; exact a1) a2 (by rw [a4] <;> rfl) rfl rfl hdg (kk H ls locs cells slots Z hc hs2)
  · cases hs
theorem pz_w_iast (C : pz_Cx p R s m args meth c G S mi) (hdg : decode (px_c mi) pc = .ok (.iastore, 1)) (hs : pz_iast pc L st h = some (.inl q)) (kk : pz_Go p l e R s m args below meth c Q G mi n0 m0 q) : pz_Go p l e R s m args below meth c Q G mi n0 m0 (pc, L, st, h) := by
  obtain ⟨⟨hx, hb, hml, hown⟩, hts, ⟨hK, hN, hCa, hAO⟩, ⟨hbs, hbz, hX⟩, ⟨hlk, hnm, hrt⟩, hfr, hlo⟩ := C
  unfold pz_iast at hs
  split at hs
  · rename_i x j i r
    obtain ⟨f, h1, h2⟩ := Option.bind_eq_some_iff.mp hs
    split at h2
    · rename_i hj
      obtain rfl := pz_gos h2
      obtain ⟨g1, g2⟩ := pz_arr_spec h1
      intro H ls locs cells slots Z hc hs2
      have hj := pz_ixs hj
      refine W.iast hx hb (pz_one Z.1 g1 g2 0 _ rfl) ((hK.2 0 _ rfl).1 f.1 (fun j => .int (f.2 j))) (fun q => by cases q) (by show ¬ (j < 0 ∨ (arrV _ _ _).slots.size ≤ _); rw [arrV_size]; exact hj) rfl rfl hdg fun H1 e z oq => ?_
      refine kk H1 ls _ cells slots (pz_Zup Z g1 z oq ?_ rfl) hc hs2
      show H1[G.2.1.1 + i]? = some (vp_cell _ _)
      rw [e]
      rw [vp_cell_i, vp_cell_i, arrV_store]
      congr 2
      funext y
      by_cases hq : y = j.toNatClampNeg
      · subst hq
        simp [updV, upd]
      · simp [updV, upd, hq]
    · cases h2
  · cases hs
theorem pz_w_aald (C : pz_Cx p R s m args meth c G S mi) (hdg : decode (px_c mi) pc = .ok (.aaload, 1)) (hs : pz_aald pc L st h = some (.inl q)) (kk : pz_Go p l e R s m args below meth c Q G mi n0 m0 q) : pz_Go p l e R s m args below meth c Q G mi n0 m0 (pc, L, st, h) := by
  obtain ⟨⟨hx, hb, hml, hown⟩, hts, ⟨hK, hN, hCa, hAO⟩, ⟨hbs, hbz, hX⟩, ⟨hlk, hnm, hrt⟩, hfr, hlo⟩ := C
  unfold pz_aald at hs
  split at hs
  · rename_i j i r
    obtain ⟨f, h1, h2⟩ := Option.bind_eq_some_iff.mp hs
    split at h2
    · rename_i hj
      obtain rfl := pz_gos h2
      obtain ⟨g1, g2⟩ := pz_arq_spec h1
      intro H ls locs cells slots Z hc hs2
      refine va_aldq hx hb hK (pz_one Z.1 g1 g2) 0 1 rfl rfl (pz_ixs hj) hdg ?_
      have k2 := kk H ls locs cells slots Z hc hs2
      rw [show (va_rf (f.2 j.toNatClampNeg) :: r).map (pz_v G.2.1.1 G.2.1.2) = va_rf ((f.2 j.toNatClampNeg).map fun z => G.2.1.1 + z) :: r.map (pz_v G.2.1.1 G.2.1.2) by rw [List.map_cons, pz_vrf]] at k2
      exact k2
    · cases h2
  · cases hs
theorem pz_w_aast (C : pz_Cx p R s m args meth c G S mi) (hdg : decode (px_c mi) pc = .ok (.aastore, 1)) (hs : pz_aast pc L st h = some (.inl q)) (kk : pz_Go p l e R s m args below meth c Q G mi n0 m0 q) : pz_Go p l e R s m args below meth c Q G mi n0 m0 (pc, L, st, h) := by
  obtain ⟨⟨hx, hb, hml, hown⟩, hts, ⟨hK, hN, hCa, hAO⟩, ⟨hbs, hbz, hX⟩, ⟨hlk, hnm, hrt⟩, hfr, hlo⟩ := C
  unfold pz_aast at hs
  split at hs
  · rename_i v j i r
    obtain ⟨f, h1, h2⟩ := Option.bind_eq_some_iff.mp hs
    split at h2
    · rename_i hj
      simp only [Bool.and_eq_true] at hj
      obtain ⟨hj, hv⟩ := hj
      obtain ⟨vs, hv⟩ := Option.isSome_iff_exists.mp hv
      obtain rfl := pz_gos h2
      obtain ⟨g1, g2⟩ := pz_arq_spec h1
      obtain ⟨v1, v2⟩ := pz_obj_spec hv
      intro H ls locs cells slots Z hc hs2
      have hj := pz_ixs hj
      have hlt : j.toNatClampNeg < f.1 := Nat.not_le.mp fun q => hj (Or.inr q)
      have h0 : ¬ j < 0 := fun q => hj (Or.inl q)
      obtain ⟨r', hr', cellV, k1, k2, k3, -⟩ := pz_one Z.1 v1 v2 0 _ rfl
      have hcls := (hK.1 3 _ (px_clat (by decide : 3 < 10))).2
      obtain ⟨kA, comp, b1, b2, b3, -⟩ := (hK.2 1 _ rfl).2
      have hcomp : comp = G.1.1 3 := Option.some.inj (b3.symm.trans hcls.1)
      subst hcomp
      obtain ⟨kC, hkC, -⟩ := hcls.2
      refine W.aast hx hb (pz_one Z.1 g1 g2 0 _ rfl) (fun q h => by cases h) (fun h => by cases h) b1 b2 rfl hkC ⟨h0, by show _ < (arrV _ _ _).slots.size; rw [arrV_size]; exact hlt⟩ k1 (fun q h => by rw [k3] at h; cases h) (by rw [k2]; exact hkC) (by rw [k2]; exact va_assign hcls) rfl rfl hdg fun H1 e z oq => ?_
      refine kk H1 ls _ cells slots (pz_Zup Z g1 z oq ?_ rfl) hc hs2
      show H1[G.2.1.1 + i]? = some (vp_cell _ _)
      rw [e]
      rw [vp_cell_q, vp_cell_q, arrV_store]
      congr 2
      funext y
      by_cases hq : y = j.toNatClampNeg
      · subst hq
        simp [updV, va_up, va_rf]
      · simp [updV, va_up, hq]
    · cases h2
  · rename_i j i r
    obtain ⟨f, h1, h2⟩ := Option.bind_eq_some_iff.mp hs
    split at h2
    · rename_i hj
      obtain rfl := pz_gos h2
      obtain ⟨g1, g2⟩ := pz_arq_spec h1
      intro H ls locs cells slots Z hc hs2
      have hj := pz_ixs hj
      refine va_WaastN (C := RX3) hx hb (pz_one Z.1 g1 g2 0 _ rfl) ((hK.2 1 _ rfl).1 f.1 (fun j => va_rf ((f.2 j).map fun z => G.2.1.1 + z))) (fun h => by cases h) (by show ¬ (j < 0 ∨ (arrV _ _ _).slots.size ≤ _); rw [arrV_size]; exact hj) rfl rfl hdg fun H1 e z oq => ?_
      refine kk H1 ls _ cells slots (pz_Zup Z g1 z oq ?_ rfl) hc hs2
      show H1[G.2.1.1 + i]? = some (vp_cell _ _)
      rw [e]
      rw [vp_cell_q, vp_cell_q, arrV_store]
      congr 2
      funext y
      by_cases hq : y = j.toNatClampNeg
      · subst hq
        simp [updV, va_up, va_rf]
      · simp [updV, va_up, hq]
    · cases h2
  · cases hs
theorem pz_w_getf (C : pz_Cx p R s m args meth c G S mi) {i a b : Nat} (hf : px_fk mi i a b = true) (hdg : decode (px_c mi) pc = .ok (.getfield i, 3)) (hs : pz_getf a b pc L st h = some (.inl q)) (kk : pz_Go p l e R s m args below meth c Q G mi n0 m0 q) : pz_Go p l e R s m args below meth c Q G mi n0 m0 (pc, L, st, h) := by
  obtain ⟨⟨hx, hb, hml, hown⟩, hts, ⟨hK, hN, hCa, hAO⟩, ⟨hbs, hbz, hX⟩, ⟨hlk, hnm, hrt⟩, hfr, hlo⟩ := C
  unfold pz_getf at hs
  split at hs
  · rename_i i r
    obtain ⟨fs, h1, h2⟩ := Option.bind_eq_some_iff.mp hs
    obtain ⟨v, h3, h4⟩ := Option.bind_eq_some_iff.mp h2
    obtain rfl := pz_gos h4
    obtain ⟨g1, g2⟩ := pz_obj_spec h1
    obtain ⟨f1, f2, f3⟩ := px_fkk hf
    intro H ls locs cells slots Z hc hs2
    exact va_get hx hb hts (px_uin f1) hown hK (pz_one Z.1 g1 g2) 0 rfl (px_clat f1) b f2 (hts _ f3) (fun _ z => z) (v := pz_v G.2.1.1 G.2.1.2 v) (by rw [List.getElem?_map, h3]; rfl) hdg (kk H ls locs cells slots Z hc hs2)
  · cases hs
theorem pz_fits {t : FieldType} {v : Value} (h : pz_fit t v = true) : narrow t (pz_v G.2.1.1 G.2.1.2 v) = pz_v G.2.1.1 G.2.1.2 v ∧ fits t (pz_v G.2.1.1 G.2.1.2 v) = true := by
  unfold pz_fit at h
  split at h
  · exact ⟨rfl, rfl⟩
  · simp only [Bool.or_eq_true, beq_iff_eq] at h
    rcases h with rfl | rfl <;> exact ⟨rfl, rfl⟩
  · exact ⟨rfl, rfl⟩
  · exact ⟨rfl, rfl⟩
  · exact ⟨rfl, rfl⟩
  · exact ⟨rfl, rfl⟩
  · exact ⟨rfl, rfl⟩
  · cases h
theorem pz_w_putf (C : pz_Cx p R s m args meth c G S mi) {i a b : Nat} (hf : px_fk mi i a b = true) (hf2 : (!(px_T a b).2.2.2 || (decide ((px_y mi).name = "<init>") && decide ((px_T a b).1 = px_R (px_o mi)))) = true) (hdg : decode (px_c mi) pc = .ok (.putfield i, 3)) (hs : pz_putf a b pc L st h = some (.inl q)) (kk : pz_Go p l e R s m args below meth c Q G mi n0 m0 q) : pz_Go p l e R s m args below meth c Q G mi n0 m0 (pc, L, st, h) := by
  obtain ⟨⟨hx, hb, hml, hown⟩, hts, ⟨hK, hN, hCa, hAO⟩, ⟨hbs, hbz, hX⟩, ⟨hlk, hnm, hrt⟩, hfr, hlo⟩ := C
  unfold pz_putf at hs
  split at hs
  · rename_i v i r
    obtain ⟨fs, h1, h2⟩ := Option.bind_eq_some_iff.mp hs
    split at h2
    · rename_i hj
      simp only [Bool.and_eq_true] at hj
      obtain ⟨hj, hv⟩ := hj
      have hj : b < fs.length := Nat.le_of_ble_eq_true hj
      obtain rfl := pz_gos h2
      obtain ⟨g1, g2⟩ := pz_obj_spec h1
      obtain ⟨f1, f2, f3⟩ := px_fkk hf
      obtain ⟨v1, v2⟩ := pz_fits (G := G) hv
      intro H ls locs cells slots Z hc hs2
      have hin := px_uin f1
      have hap := va_apart (own := px_R (px_o mi)) hts hin (px_ty a) (px_tyok f1) (px_nm f1) hK (px_clat f1)
      obtain ⟨r1, k1, cell, q1, q2, q3, q4⟩ := pz_one Z.1 g1 g2 0 _ rfl
      have hr : r1 = (px_R a, px_T a, px_N a) := Option.some.inj (k1.symm.trans (px_clat f1))
      subst hr
      obtain ⟨hS, hfc, kC, hkC, hkind⟩ := hK.1 a _ (px_clat f1)
      obtain ⟨cf, kf, fi, f, hi, hsl⟩ := hS b f2
      have hst := (u_facts hfc hkC (u_lays hts hin f2) hi).1
      have hd := px_tyok f1 b f2
      have fin : ∀ H' : Heap, H'[G.2.1.1 + i]? = some (cell.setSlot f.slot (pz_v G.2.1.1 G.2.1.2 v)) → pz_at G i (.inr (.inr (a, fs.set b v))) H' := by
        intro H' e1
        rw [hsl] at e1
        refine ⟨_, px_clat f1, t_OB.to (V := updV (vp_V (fs.map (pz_v G.2.1.1 G.2.1.2))) b (pz_v G.2.1.1 G.2.1.2 v)) ⟨_, e1, q2, q3, t_set q4 hap f2 _⟩ (fun j _ => ?_)⟩
        rw [vp_updV_set (by rw [List.length_map]; exact hj)]
        show vp_V _ j = vp_V ((fs.set b v).map (pz_v G.2.1.1 G.2.1.2)) j
        rw [List.map_set]
      have hlay := hts _ (hin _ (u_in_lay f2))
      unfold u_lay at hlay
      by_cases hfin : (px_T a b).2.2.2 = true
      · rw [if_pos hfin] at hlay
        rw [hfin] at hf2
        simp only [Bool.not_true, Bool.false_or, Bool.and_eq_true, decide_eq_true_eq] at hf2
        have hcf : m.cls = cf := by
          obtain ⟨_, _, c', _, _, _, -, -, hf', -, -, -, hown2, -⟩ := Cond.laysFinal_spec hlay
          have e1 : c' = cf := by have := hi.symm.trans hf'; simp at this; exact this.1.symm
          rw [hf2.2] at hown2
          rw [← e1]; exact Option.some.inj (hown.symm.trans hown2)
        have h6 := u_fits hfc hkC hkind (Or.inr hlay) hi hd v1 v2
        refine W.putFinK hx hb hown (hts _ f3) hi hst hcf (hnm hf2.1) (by rw [q2]; exact h6) q1 q3 (by rw [hsl]; exact k2_hasslot (q4 b f2)) rfl rfl hdg fun H' e1 e2 e3 => ?_
        exact kk H' ls _ cells slots (pz_Zup Z g1 e2 e3 (fin H' e1) rfl) hc hs2
      · rw [if_neg hfin] at hlay
        have h6 := u_store hfc hkC hkind hlay hi hd v1 v2
        refine W.putK hx hb (f := f) ⟨hown, hts _ f3, ⟨_, _, _, hi⟩, hst⟩ (by rw [q2]; exact h6) q1 q3 (by rw [hsl]; exact k2_hasslot (q4 b f2)) rfl rfl hdg fun H' e1 e2 e3 => ?_
        exact kk H' ls _ cells slots (pz_Zup Z g1 e2 e3 (fin H' e1) rfl) hc hs2
    · cases h2
  · cases hs
theorem pz_w_new (C : pz_Cx p R s m args meth c G S mi) {i a : Nat} (hf : px_nk mi i a = true) (hdg : decode (px_c mi) pc = .ok (.new i, 3)) (hs : pz_go (pc + 3) L (.ref h.2.1 :: st) (pz_nw h (.inr (.inr (a, px_df a))) (px_N a)) = some (.inl q)) (hr1 : q.2.2.2.2.1 ≤ n0 + R.cells) (hr2 : q.2.2.2.2.2 ≤ m0 + R.slots) (kk : pz_Go p l e R s m args below meth c Q G mi n0 m0 q) : pz_Go p l e R s m args below meth c Q G mi n0 m0 (pc, L, st, h) := by
  obtain ⟨⟨hx, hb, hml, hown⟩, hts, ⟨hK, hN, hCa, hAO⟩, ⟨hbs, hbz, hX⟩, ⟨hlk, hnm, hrt⟩, hfr, hlo⟩ := C
  obtain rfl := pz_gos hs
  obtain ⟨f1, f2, f3, f4⟩ := px_nkk hf
  intro H ls locs cells slots Z hc hs2
  have hin := px_uin f1
  have hKn := hK.1 a _ (px_clat f1)
  have r1 : h.2.1 + 1 ≤ n0 + R.cells := hr1
  have r2 : h.2.2 + px_N a ≤ m0 + R.slots := hr2
  refine W.newcK hx hb hown (hts _ f2) (hts _ f3) (hts _ f4) rfl hdg (by show cells + 1 ≤ _; have : n0 + cells = h.2.1 := hc; omega) (by show slots + px_N a ≤ _; have : m0 + slots = h.2.2 := hs2; omega) hKn.2.1 rfl fun H1 kC hkC e1 z1 o1 => ?_
  have k2 := kk H1 ls locs (cells + 1) (slots + px_N a) (pz_Znw Z hbz z1 o1 ⟨_, px_clat f1, (u_born (px_ty a) hts hin hKn hkC e1 (px_tyok f1)).to (fun j hj => ?_)⟩) (by show n0 + (cells + 1) = h.2.1 + 1; have : n0 + cells = h.2.1 := hc; omega) (by show m0 + (slots + px_N a) = h.2.2 + px_N a; have : m0 + slots = h.2.2 := hs2; omega)
  · have e2 : G.2.1.1 + h.2.1 = H.size := Z.1.1.symm
    have e3 : (Value.ref h.2.1 :: st).map (pz_v G.2.1.1 G.2.1.2) = .ref H.size :: st.map (pz_v G.2.1.1 G.2.1.2) := by rw [List.map_cons, ← e2]; rfl
    rw [e3] at k2
    exact k2
  · rw [(px_dfl f1).2 j hj]
    have hdv := List.all_eq_true.mp px_dfv a (List.mem_range.mpr f1)
    show vp_V (px_df a) j = vp_V ((px_df a).map (pz_v G.2.1.1 G.2.1.2)) j
    unfold vp_V
    rw [List.getD_eq_getElem?_getD, List.getD_eq_getElem?_getD, List.getElem?_map]
    cases hv : (px_df a)[j]? with
    | none => rfl
    | some w =>
      have := List.all_eq_true.mp hdv w (List.mem_of_getElem? hv)
      simp only [Bool.or_eq_true, decide_eq_true_eq] at this
      rcases this with (rfl | rfl) | rfl <;> rfl
theorem pz_w_newa (C : pz_Cx p R s m args meth c G S mi) (hdg : decode (px_c mi) pc = .ok (.newarray .int, 2)) (hs : pz_newa pc L st h = some (.inl q)) (hr1 : q.2.2.2.2.1 ≤ n0 + R.cells) (hr2 : q.2.2.2.2.2 ≤ m0 + R.slots) (kk : pz_Go p l e R s m args below meth c Q G mi n0 m0 q) : pz_Go p l e R s m args below meth c Q G mi n0 m0 (pc, L, st, h) := by
  obtain ⟨⟨hx, hb, hml, hown⟩, hts, ⟨hK, hN, hCa, hAO⟩, ⟨hbs, hbz, hX⟩, ⟨hlk, hnm, hrt⟩, hfr, hlo⟩ := C
  unfold pz_newa at hs
  split at hs
  · rename_i n r
    split at hs
    · rename_i hj
      simp only [Bool.and_eq_true, Bool.not_eq_true', decide_eq_false_iff_not] at hj
      have hj2 := Nat.le_of_ble_eq_true hj.2
      obtain rfl := pz_gos hs
      intro H ls locs cells slots Z hc hs2
      have r1 : h.2.1 + 1 ≤ n0 + R.cells := hr1
      have r2 : h.2.2 + n.toNatClampNeg ≤ m0 + R.slots := hr2
      refine va_newaK (atype := .int) hx hb (hts _ (px_in px_w_arr.1 rfl)) rfl hdg rfl hj.1 rfl hj2 (by have : n0 + cells = h.2.1 := hc; omega) (by have : m0 + slots = h.2.2 := hs2; omega) rfl fun H1 cA e1 z1 o1 hAr hNm => ?_
      have hcA : cA = G.2.2.1 := Option.some.inj (hNm.symm.trans (hK.2 0 _ rfl).2)
      subst hcA
      have k2 := kk H1 ls locs (cells + 1) (slots + n.toNatClampNeg) (pz_Znw Z hbz z1 o1 e1) (by show n0 + (cells + 1) = h.2.1 + 1; have : n0 + cells = h.2.1 := hc; omega) (by show m0 + (slots + n.toNatClampNeg) = h.2.2 + n.toNatClampNeg; have : m0 + slots = h.2.2 := hs2; omega)
      have e2 : G.2.1.1 + h.2.1 = H.size := Z.1.1.symm
      have e3 : (Value.ref h.2.1 :: r).map (pz_v G.2.1.1 G.2.1.2) = .ref H.size :: r.map (pz_v G.2.1.1 G.2.1.2) := by rw [List.map_cons, ← e2]; rfl
      rw [e3] at k2
      exact k2
    · cases hs
  · cases hs
theorem pz_w_newq (C : pz_Cx p R s m args meth c G S mi) {i : Nat} (hf : px_nk mi i 3 = true) (hdg : decode (px_c mi) pc = .ok (.anewarray i, 3)) (hs : pz_newq pc L st h = some (.inl q)) (hr1 : q.2.2.2.2.1 ≤ n0 + R.cells) (hr2 : q.2.2.2.2.2 ≤ m0 + R.slots) (kk : pz_Go p l e R s m args below meth c Q G mi n0 m0 q) : pz_Go p l e R s m args below meth c Q G mi n0 m0 (pc, L, st, h) := by
  obtain ⟨⟨hx, hb, hml, hown⟩, hts, ⟨hK, hN, hCa, hAO⟩, ⟨hbs, hbz, hX⟩, ⟨hlk, hnm, hrt⟩, hfr, hlo⟩ := C
  unfold pz_newq at hs
  split at hs
  · rename_i n r
    split at hs
    · rename_i hj
      simp only [Bool.and_eq_true, Bool.not_eq_true', decide_eq_false_iff_not] at hj
      have hj2 := Nat.le_of_ble_eq_true hj.2
      obtain rfl := pz_gos hs
      obtain ⟨f1, f2, f3, f4⟩ := px_nkk hf
      intro H ls locs cells slots Z hc hs2
      have r1 : h.2.1 + 1 ≤ n0 + R.cells := hr1
      have r2 : h.2.2 + n.toNatClampNeg ≤ m0 + R.slots := hr2
      refine W.anew hx hb hown (hts _ f2) (va_AO.use hAO) rfl hdg rfl hj.1 hj2 (by have : n0 + cells = h.2.1 := hc; omega) (by have : m0 + slots = h.2.2 := hs2; omega) fun cA kA comp d1 d2 d3 d4 => ?_
      obtain ⟨kA', comp', b1, b2, b3, b4⟩ := (hK.2 1 _ rfl).2
      have hcA : cA = G.2.2.2 := Option.some.inj (d1.symm.trans b4)
      subst hcA
      generalize hH1 : H.push ({ cls := G.2.2.2, slots := Array.replicate n.toNatClampNeg .null, vm := .none } : Cell) = H1
      have z1 : H1.size = H.size + 1 := by rw [← hH1, Array.size_push]
      have e1 : H1[H.size]? = some (arrV G.2.2.2 n.toNatClampNeg (fun _ => .null)) := by rw [← hH1, Array.getElem?_push_size, ← arrV_new]
      have o1 : ∀ q : Nat, q < H.size → H1[q]? = H[q]? := fun q hq => by rw [← hH1, Array.getElem?_push, if_neg (Nat.ne_of_lt hq)]
      have k2 := kk H1 ls locs (cells + 1) (slots + n.toNatClampNeg) (pz_Znw Z hbz z1 o1 e1) (by show n0 + (cells + 1) = h.2.1 + 1; have : n0 + cells = h.2.1 := hc; omega) (by show m0 + (slots + n.toNatClampNeg) = h.2.2 + n.toNatClampNeg; have : m0 + slots = h.2.2 := hs2; omega)
      have e2 : G.2.1.1 + h.2.1 = H.size := Z.1.1.symm
      have e3 : (Value.ref h.2.1 :: r).map (pz_v G.2.1.1 G.2.1.2) = .ref H.size :: r.map (pz_v G.2.1.1 G.2.1.2) := by rw [List.map_cons, ← e2]; rfl
      rw [e3] at k2
      exact k2
    · cases hs
  · cases hs
end PZ2
