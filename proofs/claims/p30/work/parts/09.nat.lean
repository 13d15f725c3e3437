section PZ3
variable {p : Program} {l : Launch} {e : Env} {R : Room} {s : State} {m : MethodId} {args : Array Value} {below : List Frame} {meth : Method} {c : Code} {Q : State → Prop} {G : pz_D} {S : (Nat → Int32) × Nat} {mi n0 m0 : Nat} {pc : Nat} {L : pz_L} {st : List Value} {h : pz_H} {q : Nat × (pz_L × (List Value × pz_H))}
theorem pz_ble {a n : Nat} {α : Type} {x y : Option α} {z : α} (h : (match Nat.ble a n with | true => x | false => none) = some z) : a ≤ n ∧ x = some z := by
  cases e : Nat.ble a n with
  | true => rw [e] at h; exact ⟨Nat.le_of_ble_eq_true e, h⟩
  | false => rw [e] at h; cases h
theorem pz_w_obj (C : pz_Cx p R s m args meth c G S mi) {i : Nat} {r : List Value} {a : Nat} (hf : px_xk mi i 1000 = true) (hdg : decode (px_c mi) pc = .ok (.invokespecial i, 3)) (hs : (match Nat.ble (pz_sum r) 8 with | true => pz_go (pc + 3) L r h | false => none) = some (.inl q)) (kk : pz_Go p l e R s m args below meth c Q G mi n0 m0 q) : pz_Go p l e R s m args below meth c Q G mi n0 m0 (pc, L, .ref a :: r, h) := by
  obtain ⟨⟨hx, hb, hml, hown⟩, hts, ⟨hK, hN, hCa, hAO⟩, ⟨hbs, hbz, hX⟩, ⟨hlk, hnm, hrt⟩, hfr, hlo⟩ := C
  obtain ⟨f1, f2, f3⟩ := px_xkk hf
  obtain ⟨h1, h2⟩ := pz_ble (y := none) hs
  obtain rfl := pz_gos h2
  intro H ls locs cells slots Z hc hs2
  refine W.objInit hx hb hown (hts _ f1) (hts _ (px_in px_w_arr.2.2.1 rfl)) (hts _ (px_in px_w_arr.2.2.2.1 rfl)) (g := F0 m pc ls (.ref (G.2.1.1 + a) :: r.map (pz_v G.2.1.1 G.2.1.2))) rfl (by rw [hml]; exact Z.2.2.1.2.1) rfl hdg (Nat.le_trans f2 hfr) (by rw [pz_vsum]; show 2 * 0 + _ + 12 ≤ _; omega) (kk H ls locs cells slots Z hc hs2)
theorem pz_w_clone (C : pz_Cx p R s m args meth c G S mi) {i : Nat} {r : List Value} {a : Nat} (hf : px_xk mi i 1002 = true) (hdg : decode (px_c mi) pc = .ok (.invokevirtual i, 3)) (hs : ((pz_arr h a).bind fun q => match Nat.ble (pz_sum r) 8 with | true => pz_go (pc + 3) L (.ref h.2.1 :: r) (pz_nw h (.inl q) q.1) | false => none) = some (.inl q)) (hr1 : q.2.2.2.2.1 ≤ n0 + R.cells) (hr2 : q.2.2.2.2.2 ≤ m0 + R.slots) (kk : pz_Go p l e R s m args below meth c Q G mi n0 m0 q) : pz_Go p l e R s m args below meth c Q G mi n0 m0 (pc, L, .ref a :: r, h) := by
  obtain ⟨⟨hx, hb, hml, hown⟩, hts, ⟨hK, hN, hCa, hAO⟩, ⟨hbs, hbz, hX⟩, ⟨hlk, hnm, hrt⟩, hfr, hlo⟩ := C
  obtain ⟨f1, f2, f3⟩ := px_xkk hf
  obtain ⟨x, h1, h2⟩ := Option.bind_eq_some_iff.mp hs
  obtain ⟨h3, h4⟩ := pz_ble (y := none) h2
  obtain rfl := pz_gos h4
  obtain ⟨g1, g2⟩ := pz_arr_spec h1
  have r1 : h.2.1 + 1 ≤ n0 + R.cells := hr1
  have r2 : h.2.2 + x.1 ≤ m0 + R.slots := hr2
  obtain ⟨w1, w2, w3, w4, w5⟩ := px_w_cl
  intro H ls locs cells slots Z hc hs2
  have hsz : (vp_cell G.2.2.1 (x.1, .inl x.2)).slots.size = x.1 := arrV_size _ _ _
  have hnm2 := va_nm_int (hK.2 0 _ rfl).2
  obtain ⟨c0, t0', d1, d2, d3⟩ := Cond.castable_spec (va_Nw.use (A := args) rfl hCa)
  cases hnm2.symm.trans d1
  intro T hT X
  have hcellT : T.heap[G.2.1.1 + a]? = some (vp_cell G.2.2.1 (x.1, .inl x.2)) := by rw [hT]; exact pz_one Z.1 g1 g2 0 _ rfl
  obtain ⟨-, kA, hkA, comp, hkind⟩ := State.isArrayOf_alike X.warmed.alike ((hK.2 0 _ rfl).1 0 (fun _ => .null))
  obtain ⟨-, kS, hkS, compS, hkindS⟩ := (hK.2 0 _ rfl).1 0 (fun _ => .null)
  obtain ⟨vm', X', st⟩ := X.cloneArray hx hown (hts _ f1) (hts _ (px_in w1 rfl)) (hts _ (px_in w2 rfl)) (hts _ (px_in w3 rfl)) (hts _ (px_in w4 rfl)) (a := G.2.1.1 + a) (cell := vp_cell G.2.2.1 (x.1, .inl x.2)) hcellT (fun k h => by cases h) (fun h => by cases h) hnm2 d2 d3
    (fun i v hv => by
      have hk' : T.vm.classes[G.2.2.1]? = some kA := hkA
      have hv2 := va_fit (cA := G.2.2.1) (n := x.1) (F := fun j => .int (x.2 j)) (ty := .int) (fun _ _ => rfl) i v hv
      show T.fitsSlot G.2.2.1 _ i v = true
      simpa [State.fitsSlot, State.slotType?, hk', hkind] using hv2)
    (g := F0 m pc ls (.ref (G.2.1.1 + a) :: r.map (pz_v G.2.1.1 G.2.1.2))) rfl (by rw [hml]; exact Z.2.2.1.2.1) rfl (by rw [hb]; exact hdg) (Nat.le_trans f2 hfr) (by rw [pz_vsum]; show 2 * 0 + _ + 14 ≤ _; omega) (by have : n0 + cells = h.2.1 := hc; omega) (by rw [hsz]; have : m0 + slots = h.2.2 := hs2; omega) (hloader := Vm.clonesLoader_of_array hkS hkindS)
  have hcellE : ({ cls := (vp_cell G.2.2.1 (x.1, .inl x.2)).cls, slots := (vp_cell G.2.2.1 (x.1, .inl x.2)).slots } : Cell) = vp_cell G.2.2.1 (x.1, .inl x.2) := rfl
  rw [hcellE, hsz] at X'
  rw [hcellE] at st
  generalize hH1 : H.push (vp_cell G.2.2.1 (x.1, .inl x.2)) = H1
  have z1 : H1.size = H.size + 1 := by rw [← hH1, Array.size_push]
  have e1 : H1[H.size]? = some (vp_cell G.2.2.1 (x.1, .inl x.2)) := by rw [← hH1, Array.getElem?_push_size]
  have o1 : ∀ q : Nat, q < H.size → H1[q]? = H[q]? := fun q hq => by rw [← hH1, Array.getElem?_push, if_neg (Nat.ne_of_lt hq)]
  have k2 := kk H1 ls locs (cells + 1) (slots + x.1) (pz_Znw Z hbz z1 o1 e1) (by show n0 + (cells + 1) = h.2.1 + 1; have : n0 + cells = h.2.1 := hc; omega) (by show m0 + (slots + x.1) = h.2.2 + x.1; have : m0 + slots = h.2.2 := hs2; omega)
  obtain ⟨t, b1, b2⟩ := k2 ((T.setVm vm').pushCell (vp_cell G.2.2.1 (x.1, .inl x.2))) (by rw [← hH1, ← hT]; rfl) X'
  refine ⟨t, st t ?_, b2⟩
  have e2 : G.2.1.1 + h.2.1 = H.size := Z.1.1.symm
  have e3 : (Value.ref h.2.1 :: r).map (pz_v G.2.1.1 G.2.1.2) = .ref H.size :: r.map (pz_v G.2.1.1 G.2.1.2) := by rw [List.map_cons, ← e2]; rfl
  rw [hT]
  simp only [e3] at b1
  exact b1
theorem pz_w_cpy (C : pz_Cx p R s m args meth c G S mi) {i : Nat} (hf : px_xk mi i 1001 = true) (hdg : decode (px_c mi) pc = .ok (.invokestatic i, 3)) (hs : pz_cpy pc L st h = some (.inl q)) (kk : pz_Go p l e R s m args below meth c Q G mi n0 m0 q) : pz_Go p l e R s m args below meth c Q G mi n0 m0 (pc, L, st, h) := by
  obtain ⟨⟨hx, hb, hml, hown⟩, hts, ⟨hK, hN, hCa, hAO⟩, ⟨hbs, hbz, hX⟩, ⟨hlk, hnm, hrt⟩, hfr, hlo⟩ := C
  obtain ⟨f1, f2, f3⟩ := px_xkk hf
  unfold pz_cpy at hs
  split at hs
  · rename_i n dp d sp a0 r
    obtain ⟨f, h1, hs⟩ := Option.bind_eq_some_iff.mp hs
    obtain ⟨g, h2, hs⟩ := Option.bind_eq_some_iff.mp hs
    split at hs
    · rename_i hj
      obtain ⟨j1, j2, j3, j4, j5, j6⟩ := hj
      obtain rfl := pz_gos hs
      obtain ⟨a1, a2⟩ := pz_arr_spec h1
      obtain ⟨b1, b2⟩ := pz_arr_spec h2
      intro H ls locs cells slots Z hc hs2
      have nn : ∀ z : Int32, ¬ z < 0 → z.toInt = (z.toNatClampNeg : Int) := by
        intro z hz
        have hz0 : (0 : Int) ≤ z.toInt := by
          have := Int32.not_lt.mp hz
          simpa using Int32.le_iff_toInt_le.mp this
        show z.toInt = ((z.toInt.toNat : Nat) : Int)
        omega
      intro T hT X
      have e5 : nativeFrameWords "java/lang/System" "arraycopy" 5 = 7 := by decide +kernel
      have hc0 : H[G.2.1.1 + a0]? = some (vp_cell G.2.2.1 (f.1, .inl f.2)) := pz_one Z.1 a1 a2 0 _ rfl
      have hc1 : H[G.2.1.1 + d]? = some (vp_cell G.2.2.1 (g.1, .inl g.2)) := pz_one Z.1 b1 b2 0 _ rfl
      obtain ⟨-, k0, hk0, cm0, hkk0⟩ := (hK.2 0 _ rfl).1 f.1 (fun j => .int (f.2 j))
      obtain ⟨-, k1, hk1, cm1, hkk1⟩ := (hK.2 0 _ rfl).1 g.1 (fun j => .int (g.2 j))
      obtain ⟨vm', X', step⟩ := X.arraycopy hx hown (hts _ f1) (hts _ (px_in px_w_arr.2.2.2.2.1 rfl)) (hts _ (px_in px_w_arr.2.2.2.2.2.1 rfl)) (hts _ (px_in px_w_arr.2.2.2.2.2.2.1 rfl)) (src := G.2.1.1 + a0) (dst := G.2.1.1 + d) (cs := vp_cell G.2.2.1 (f.1, .inl f.2)) (cd := vp_cell G.2.2.1 (g.1, .inl g.2)) (srcPos := sp) (destPos := dp) (n := n) (by rw [hT]; exact hc0) (by rw [hT]; exact hc1)
        (fun _ h => by cases h) (fun _ h => by cases h) (fun h => by cases h) (fun h => by cases h) hk0 hk1 hkk0 hkk1 (by simp [refKind]) j1 j2 j3
        (by rw [nn sp j1, nn n j3]; show ¬ _ > ((arrV G.2.2.1 f.1 (fun j => .int (f.2 j))).slots.size : Int); rw [arrV_size]; omega)
        (by rw [nn dp j2, nn n j3]; show ¬ _ > ((arrV G.2.2.1 g.1 (fun j => .int (g.2 j))).slots.size : Int); rw [arrV_size]; omega)
        (fun vm₁ _ i hi => by
          have e : (vp_cell G.2.2.1 (f.1, .inl f.2)).slots.getD (sp.toNatClampNeg + i) .null = .int (f.2 (sp.toNatClampNeg + i)) := by
            show (arrV G.2.2.1 f.1 (fun j => .int (f.2 j))).slots.getD _ _ = _
            rw [Array.getD_eq_getD_getElem?, arrV_read _ _ (by omega)]
            rfl
          refine ⟨?_, ?_⟩
          · rw [e]; rfl
          · rw [e]; exact trivial)
        (g := F0 m pc ls (.int n :: .int dp :: .ref (G.2.1.1 + d) :: .int sp :: .ref (G.2.1.1 + a0) :: r.map (pz_v G.2.1.1 G.2.1.2))) rfl (by rw [hml]; exact Z.2.2.1.2.1) (rest := r.map (pz_v G.2.1.1 G.2.1.2)) rfl (by rw [hb]; exact hdg) (Nat.le_trans f2 hfr) (by rw [pz_vsum, e5]; show 2 * 0 + _ + _ ≤ _; omega)
      have e1 : copied (vp_cell G.2.2.1 (f.1, .inl f.2)) (vp_cell G.2.2.1 (g.1, .inl g.2)) sp dp n = vp_cell G.2.2.1 (g.1, .inl (va_cpy f.2 g.2 sp.toNatClampNeg dp.toNatClampNeg n.toNatClampNeg)) := va_copied (fun z => .int z) G.2.2.1 G.2.2.1 f.2 g.2 j4
      rw [e1] at X' step
      have hl : G.2.1.1 + d < H.size := (Array.getElem?_eq_some_iff.mp hc1).1
      have hheap : ((T.setVm vm').setCell (G.2.1.1 + d) (vp_cell G.2.2.1 (g.1, .inl (va_cpy f.2 g.2 sp.toNatClampNeg dp.toNatClampNeg n.toNatClampNeg)))).heap = H.setIfInBounds (G.2.1.1 + d) (vp_cell G.2.2.1 (g.1, .inl (va_cpy f.2 g.2 sp.toNatClampNeg dp.toNatClampNeg n.toNatClampNeg))) := by rw [← hT]; rfl
      have oq : ∀ q : Nat, q ≠ G.2.1.1 + d → (H.setIfInBounds (G.2.1.1 + d) (vp_cell G.2.2.1 (g.1, .inl (va_cpy f.2 g.2 sp.toNatClampNeg dp.toNatClampNeg n.toNatClampNeg))))[q]? = H[q]? := fun q hq => by simp [Array.getElem?_setIfInBounds, Ne.symm hq]
      obtain ⟨t, a1', b1'⟩ := kk (H.setIfInBounds (G.2.1.1 + d) (vp_cell G.2.2.1 (g.1, .inl (va_cpy f.2 g.2 sp.toNatClampNeg dp.toNatClampNeg n.toNatClampNeg)))) ls _ cells slots ⟨Z.1.up b1 (by simp) oq (show (H.setIfInBounds (G.2.1.1 + d) _)[G.2.1.1 + d]? = some _ by simp [Array.getElem?_setIfInBounds, hl]), fun q hq => by
          rw [oq q (by omega)]
          exact Z.2.1 q hq, Z.2.2.1, fun q hq => by
          rcases List.mem_append.mp hq with h | h
          · exact Z.2.2.2 q h
          · obtain ⟨z, -, hz⟩ := List.mem_map.mp h
            rw [← hz]
            exact Nat.le_add_right _ _⟩ hc hs2 _ hheap X'
      exact ⟨t, step t a1', b1'⟩
    · cases hs
  · cases hs
theorem pz_w_max (C : pz_Cx p R s m args meth c G S mi) {i : Nat} (hf : px_xk mi i 1003 = true) (hdg : decode (px_c mi) pc = .ok (.invokestatic i, 3)) (hs : pz_mx (fun x y => if x < y then y else x) pc L st h = some (.inl q)) (hr1 : h.2.1 ≤ n0 + R.cells) (hr2 : h.2.2 ≤ m0 + R.slots) (kk : pz_Go p l e R s m args below meth c Q G mi n0 m0 q) : pz_Go p l e R s m args below meth c Q G mi n0 m0 (pc, L, st, h) := by
  obtain ⟨⟨hx, hb, hml, hown⟩, hts, ⟨hK, hN, hCa, hAO⟩, ⟨hbs, hbz, hX⟩, ⟨hlk, hnm, hrt⟩, hfr, hlo⟩ := C
  obtain ⟨f1, f2, f3⟩ := px_xkk hf
  unfold pz_mx at hs
  split at hs
  · rename_i y x r
    obtain ⟨h3, h4⟩ := pz_ble (y := none) hs
    obtain rfl := pz_gos h4
    intro H ls locs cells slots Z hc hs2
    exact va_mmax hx hb (by rw [hml]; exact Z.2.2.1.2.1.symm) hown (hts _ f1) (hts _ (px_in px_w_arr.2.2.2.2.2.2.2.1 rfl)) (hts _ (px_in px_w_arr.2.2.2.2.2.2.2.2.2.1 rfl)) (hts _ (px_in px_w_arr.2.2.2.2.2.2.2.2.2.2.1 rfl)) (Nat.le_trans f2 hfr) (by rw [pz_vsum]; omega) (by have : n0 + cells = h.2.1 := hc; omega) (by have : m0 + slots = h.2.2 := hs2; omega) hdg (kk H ls locs cells slots Z hc hs2)
  · cases hs
theorem pz_w_min (C : pz_Cx p R s m args meth c G S mi) {i : Nat} (hf : px_xk mi i 1004 = true) (hdg : decode (px_c mi) pc = .ok (.invokestatic i, 3)) (hs : pz_mx (fun x y => if y < x then y else x) pc L st h = some (.inl q)) (hr1 : h.2.1 ≤ n0 + R.cells) (hr2 : h.2.2 ≤ m0 + R.slots) (kk : pz_Go p l e R s m args below meth c Q G mi n0 m0 q) : pz_Go p l e R s m args below meth c Q G mi n0 m0 (pc, L, st, h) := by
  obtain ⟨⟨hx, hb, hml, hown⟩, hts, ⟨hK, hN, hCa, hAO⟩, ⟨hbs, hbz, hX⟩, ⟨hlk, hnm, hrt⟩, hfr, hlo⟩ := C
  obtain ⟨f1, f2, f3⟩ := px_xkk hf
  unfold pz_mx at hs
  split at hs
  · rename_i y x r
    obtain ⟨h3, h4⟩ := pz_ble (y := none) hs
    obtain rfl := pz_gos h4
    intro H ls locs cells slots Z hc hs2
    exact va_mmin hx hb (by rw [hml]; exact Z.2.2.1.2.1.symm) hown (hts _ f1) (hts _ (px_in px_w_arr.2.2.2.2.2.2.2.2.1 rfl)) (hts _ (px_in px_w_arr.2.2.2.2.2.2.2.2.2.1 rfl)) (hts _ (px_in px_w_arr.2.2.2.2.2.2.2.2.2.2.2 rfl)) (Nat.le_trans f2 hfr) (by rw [pz_vsum]; omega) (by have : n0 + cells = h.2.1 := hc; omega) (by have : m0 + slots = h.2.2 := hs2; omega) hdg (kk H ls locs cells slots Z hc hs2)
  · cases hs
theorem pz_w_cast (C : pz_Cx p R s m args meth c G S mi) {i a : Nat} {r : List Value} (hf : (px_il.any fun q => q.1 == px_o mi && q.2.1 == i) = true) (hdg : decode (px_c mi) pc = .ok (.checkcast i, 3)) (hs : ((pz_arr h a).bind fun _ => pz_go (pc + 3) L (.ref a :: r) h) = some (.inl q)) (kk : pz_Go p l e R s m args below meth c Q G mi n0 m0 q) : pz_Go p l e R s m args below meth c Q G mi n0 m0 (pc, L, .ref a :: r, h) := by
  obtain ⟨⟨hx, hb, hml, hown⟩, hts, ⟨hK, hN, hCa, hAO⟩, ⟨hbs, hbz, hX⟩, ⟨hlk, hnm, hrt⟩, hfr, hlo⟩ := C
  obtain ⟨x, h1, h2⟩ := Option.bind_eq_some_iff.mp hs
  obtain rfl := pz_gos h2
  obtain ⟨g1, g2⟩ := pz_arr_spec h1
  simp only [List.any_eq_true, Bool.and_eq_true, beq_iff_eq] at hf
  obtain ⟨y, hy, e1, e2⟩ := hf
  have h7 := List.mem_of_getElem? (of_decide_eq_true (List.all_eq_true.mp px_il_k y hy))
  rw [e1, e2] at h7
  intro H ls locs cells slots Z hc hs2
  exact va_castA hx hb hown (hts _ (px_in h7 rfl)) (pz_one Z.1 g1 g2) 0 rfl (va_nm_int (hK.2 0 _ rfl).2) hdg (kk H ls locs cells slots Z hc hs2)
end PZ3
