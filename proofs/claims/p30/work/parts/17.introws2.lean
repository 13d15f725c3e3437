section QZ3
variable {S : (Nat → Int32) × Nat} {m pc : Nat} {k : px_K} {L : qL} {st : List qV} {t : qT} {D : qD} {Q : Int → qT → qD → Prop} {K : qK} {z : Nat × (Nat × (Nat × Int))}
theorem qrf {t : qT} (s : qSt t) {a : Nat} (h : (t.1 a).1 ≠ 8) : qc (qr a) = .ref a := if_neg (s.nz h)
theorem s_iald (HK : ∀ pc' L' st' t' D', K pc' L' st' t' D' → wp S m pc' L' st' t' D' Q) (hk : px_at m pc = some (.iaload, z)) (h : q_iald pc L st t D K S) : wp S m pc L st t D Q := by
  unfold q_iald at h
  split at h
  · rename_i j a r
    obtain ⟨h1, h⟩ := chk_e h
    obtain ⟨h2, h⟩ := chk_e h
    refine wp_gs hk (fun s => ?_) (HK _ _ _ _ _ h)
    have hT := s.sT h1 (by decide)
    have hj := pz_ixq (j := j) (n := (t.1 a).2) (by rw [hT]; exact h2) (s.2.2.2.2 a).2
    show (pz_arr (qH t D) a).bind _ = _
    rw [qH_arr s (by rw [hT]; exact h1), Option.bind_some]
    dsimp only
    rw [hj, i32_nat ⟨by omega, by have := (s.2.2.2.2 a).2; rw [hT] at this; omega⟩, Int.toNat_of_nonneg h2.1]
    rfl
  · rename_i j a r
    obtain ⟨h1, h⟩ := chk_e h
    obtain ⟨h2, h⟩ := chk_e h
    refine wp_gs hk (fun s => ?_) (HK _ _ _ _ _ h)
    have hj := pz_ixq (j := j) (n := (t.1 a).2) h2 (s.2.2.2.2 a).2
    rw [List.map_cons, List.map_cons, qrf s (by rw [h1]; decide)]
    show (pz_arr (qH t D) a).bind _ = _
    rw [qH_arr s h1, Option.bind_some]
    dsimp only
    rw [hj, i32_nat ⟨by omega, by have := (s.2.2.2.2 a).2; omega⟩, Int.toNat_of_nonneg h2.1]
    rfl
  · rename_i j u r
    obtain ⟨h1, h⟩ := chk_e h
    refine wp_gs hk (fun s => ?_) (HK _ _ _ _ _ h)
    have hr : qR j := ⟨by omega, by omega⟩
    show (match pz_ixd (Int32.ofInt j) S.2 with | true => _ | false => none) = _
    rw [show pz_ixd (Int32.ofInt j) S.2 = true from by
      unfold pz_ixd
      rw [i32_nat hr, show (decide (Int32.ofInt j < 0)) = false from decide_eq_false (by rw [show (0 : Int32) = Int32.ofInt 0 from rfl, i32_lt hr ⟨by decide, by decide⟩]; omega)]
      rw [show Nat.blt j.toNat S.2 = true from Nat.blt_eq.mpr (by omega)]
      rfl]
    dsimp only
    rw [i32_nat hr]
    show some (Sum.inl (pc + 1, qcl L, Value.int (S.1 j.toNat) :: _, _)) = some (Sum.inl (pc + 1, qcl L, Value.int (Int32.ofInt (S.1 j.toNat).toInt) :: _, _))
    rw [Int32.ofInt_toInt]
  · exact h.elim
theorem s_iast (HK : ∀ pc' L' st' t' D', K pc' L' st' t' D' → wp S m pc' L' st' t' D' Q) (hk : px_at m pc = some (.iastore, z)) (h : q_iast pc L st t D K) : wp S m pc L st t D Q := by
  unfold q_iast at h
  split at h
  · rename_i x j a r
    obtain ⟨h1, h⟩ := chk_e h
    obtain ⟨h2, h⟩ := chk_e h
    refine wp_gs hk (fun s => ?_) (HK _ _ _ _ _ h)
    have hT := s.sT h1 (by decide)
    have hj := pz_ixq (j := j) (n := (t.1 a).2) (by rw [hT]; exact h2) (s.2.2.2.2 a).2
    show (pz_arr (qH t D) a).bind _ = _
    rw [qH_arr s (by rw [hT]; exact h1), Option.bind_some]
    dsimp only
    rw [hj, i32_nat ⟨by omega, by have := (s.2.2.2.2 a).2; rw [hT] at this; omega⟩, ← qH_upa (by rw [hT]; exact h1) h2.1]
    rfl
  · rename_i x j a r
    obtain ⟨h1, h⟩ := chk_e h
    obtain ⟨h2, h⟩ := chk_e h
    refine wp_gs hk (fun s => ?_) (HK _ _ _ _ _ h)
    have hj := pz_ixq (j := j) (n := (t.1 a).2) h2 (s.2.2.2.2 a).2
    rw [List.map_cons, List.map_cons, List.map_cons, qrf s (by rw [h1]; decide)]
    show (pz_arr (qH t D) a).bind _ = _
    rw [qH_arr s h1, Option.bind_some]
    dsimp only
    rw [hj, i32_nat ⟨by omega, by have := (s.2.2.2.2 a).2; omega⟩, ← qH_upa h1 h2.1]
    rfl
  · exact h.elim
theorem va_rf_q (v : Nat) : va_rf (if v = 0 then none else some v) = qc (qr v) := by
  show _ = if v = 0 then Value.null else Value.ref v
  split <;> rfl
theorem s_aald (HK : ∀ pc' L' st' t' D', K pc' L' st' t' D' → wp S m pc' L' st' t' D' Q) (hk : px_at m pc = some (.aaload, z)) (h : q_aald pc L st t D K) : wp S m pc L st t D Q := by
  unfold q_aald at h
  split at h
  · rename_i j a r
    obtain ⟨h1, h⟩ := chk_e h
    obtain ⟨h2, h⟩ := chk_e h
    refine wp_gs hk (fun s => ?_) (HK _ _ _ _ _ h)
    have hT := s.sT h1 (by decide)
    have hj := pz_ixq (j := j) (n := (t.1 a).2) (by rw [hT]; exact h2) (s.2.2.2.2 a).2
    show (pz_arq (qH t D) a).bind _ = _
    rw [qH_arq s (by rw [hT]; exact h1), Option.bind_some]
    dsimp only
    rw [hj, i32_nat ⟨by omega, by have := (s.2.2.2.2 a).2; rw [hT] at this; omega⟩, Int.toNat_of_nonneg h2.1, va_rf_q]
    rfl
  · rename_i j a r
    obtain ⟨h1, h⟩ := chk_e h
    obtain ⟨h2, h⟩ := chk_e h
    refine wp_gs hk (fun s => ?_) (HK _ _ _ _ _ h)
    have hj := pz_ixq (j := j) (n := (t.1 a).2) h2 (s.2.2.2.2 a).2
    rw [List.map_cons, List.map_cons, qrf s (by rw [h1]; decide)]
    show (pz_arq (qH t D) a).bind _ = _
    rw [qH_arq s h1, Option.bind_some]
    dsimp only
    rw [hj, i32_nat ⟨by omega, by have := (s.2.2.2.2 a).2; omega⟩, Int.toNat_of_nonneg h2.1, va_rf_q]
    rfl
  · exact h.elim
theorem qsP_arr {a : Nat} (h : ¬ (qsT a).1 < 10) (b : Nat) : qsP a b = none := by
  cases e : qsP a b with
  | none => rfl
  | some v => exact absurd (qsP_lt e).2.1 h
theorem s_aast (HK : ∀ pc' L' st' t' D', K pc' L' st' t' D' → wp S m pc' L' st' t' D' Q) (hk : px_at m pc = some (.aastore, z)) (h : q_aast pc L st t D K) : wp S m pc L st t D Q := by
  unfold q_aast at h
  split at h
  · rename_i v j a r
    obtain ⟨h1, h⟩ := chk_e h
    obtain ⟨h3, h⟩ := chk_e h
    obtain ⟨h2, h⟩ := chk_e h
    refine wp_go hk (fun s => ?_) (fun s => s.upP (fun b _ => qsP_arr (by omega) b)) (fun _ => ⟨Nat.le_refl _, Nat.le_refl _, fun _ _ => rfl⟩) (HK _ _ _ _ _ h)
    have hT := s.sT h1 (by decide)
    have h1' : (t.1 a).1 = 11 := by rw [hT]; exact h1
    have hj := pz_ixq (j := j) (n := (t.1 a).2) (by rw [hT]; exact h2) (s.2.2.2.2 a).2
    have hn : (Int32.ofInt j).toNatClampNeg = j.toNat := i32_nat ⟨by omega, by have := (s.2.2.2.2 a).2; rw [hT] at this; omega⟩
    by_cases hv : v = 0
    · rw [List.map_cons, show qc (qr v) = .null from if_pos hv]
      show (pz_arq (qH t D) a).bind _ = _
      rw [qH_arq s h1', Option.bind_some]
      dsimp only
      rw [hj, hn, ← qH_upq h1' h2.1 (if_pos hv)]
      rfl
    · rw [List.map_cons, show qc (qr v) = .ref v from if_neg hv]
      show (pz_arq (qH t D) a).bind _ = _
      rw [qH_arq s h1', Option.bind_some]
      dsimp only
      rw [qH_obj s (h3.resolve_left hv) (by decide), hj, hn, ← qH_upq h1' h2.1 (if_neg hv)]
      rfl
  · exact h.elim
theorem i32_ofNat (n : Nat) : Int32.ofNat n = Int32.ofInt n := Int32.ofInt_eq_ofNat.symm
theorem s_alen (HK : ∀ pc' L' st' t' D', K pc' L' st' t' D' → wp S m pc' L' st' t' D' Q) (hk : px_at m pc = some (.arraylength, z)) (h : q_alen pc L st t D K S) : wp S m pc L st t D Q := by
  unfold q_alen at h
  split at h
  · rename_i a r
    obtain ⟨h1, h⟩ := chk_e h
    refine wp_gs hk (fun s => ?_) (HK _ _ _ _ _ h)
    have hT := s.sT h1 (by decide)
    have h2 := (s.2.2.2.2 a).1
    show (pz_arr (qH t D) a).bind _ = _
    rw [qH_arr s (by rw [hT]; exact h1), Option.bind_some]
    dsimp only
    rw [i32_ofNat, Int.toNat_of_nonneg h2, hT]
    rfl
  · rename_i a r
    obtain ⟨h1, h⟩ := chk_e h
    refine wp_gs hk (fun s => ?_) (HK _ _ _ _ _ h)
    have h2 := (s.2.2.2.2 a).1
    rw [List.map_cons, qrf s (by rw [h1]; decide)]
    show (pz_arr (qH t D) a).bind _ = _
    rw [qH_arr s h1, Option.bind_some]
    dsimp only
    rw [i32_ofNat, Int.toNat_of_nonneg h2]
    rfl
  · rename_i r
    refine wp_gs hk (fun s => ?_) (HK _ _ _ _ _ h)
    show pz_go (pc + 1) _ (.int (Int32.ofNat S.2) :: _) _ = _
    rw [i32_ofNat]
    rfl
  · exact h.elim
theorem s_gf {a b i0 l0 : Nat} {w : Int} (HK : ∀ pc' L' st' t' D', K pc' L' st' t' D' → wp S m pc' L' st' t' D' Q) (hk : px_at m pc = some (.getfield i0, l0, a, b, w)) (h : q_gf pc L st t D K a b) : wp S m pc L st t D Q := by
  unfold q_gf at h
  split at h
  · rename_i o r
    obtain ⟨⟨h1, h2, h3⟩, h⟩ := chk_e h
    have key : qSt t → pz_step S (px_rt m) (.getfield i0, l0, a, b, w) pc (qcl L) ((qs o :: r).map qc) (qH t D) = pz_go (pc + 3) (qcl L) (qF (px_ty a b) (t.2.1 o b) (D o b) :: r.map qc) (qH t D) := fun s => by
      show (pz_obj (qH t D) o a).bind _ = _
      rw [qH_obj s (by rw [s.sT h1 (by omega)]; exact h1) h2, Option.bind_some, qFs_get h3]
      rfl
    split at h
    · rename_i e
      exact wp_gs hk (fun s => by rw [key s, e]; rfl) (HK _ _ _ _ _ h)
    · rename_i e
      exact wp_gs hk (fun s => by rw [key s, e]; rfl) (HK _ _ _ _ _ h)
    · rename_i e
      exact wp_gs hk (fun s => by rw [key s, e]; rfl) (HK _ _ _ _ _ h)
    · rename_i e1 e2 e3
      have e : ∀ p d, qF (px_ty a b) p d = if p = 0 then .null else .ref p := fun p d => by
        unfold qF
        split
        · exact absurd (by assumption) e1
        · exact absurd (by assumption) e2
        · exact absurd (by assumption) e3
        · rfl
      split at h
      · rename_i v hv
        obtain ⟨h5, h⟩ := chk_e h
        exact wp_gs hk (fun s => by rw [key s, e, s.2.2.2.1 _ _ _ hv, if_neg h5]; rfl) (HK _ _ _ _ _ h)
      · exact wp_gs hk (fun s => by rw [key s, e]; rfl) (HK _ _ _ _ _ h)
  · rename_i o r
    obtain ⟨⟨h1, h2, h3⟩, h⟩ := chk_e h
    obtain ⟨h4, h⟩ := chk_e h
    have key : qSt t → pz_step S (px_rt m) (.getfield i0, l0, a, b, w) pc (qcl L) ((qr o :: r).map qc) (qH t D) = pz_go (pc + 3) (qcl L) (qF (px_ty a b) (t.2.1 o b) (D o b) :: r.map qc) (qH t D) := fun s => by
      rw [List.map_cons, qrf s (by rw [h4]; exact h1)]
      show (pz_obj (qH t D) o a).bind _ = _
      rw [qH_obj s h4 h2, Option.bind_some, qFs_get h3]
      rfl
    split at h
    · rename_i e
      exact wp_gs hk (fun s => by rw [key s, e]; rfl) (HK _ _ _ _ _ h)
    · rename_i e
      exact wp_gs hk (fun s => by rw [key s, e]; rfl) (HK _ _ _ _ _ h)
    · rename_i e
      exact wp_gs hk (fun s => by rw [key s, e]; rfl) (HK _ _ _ _ _ h)
    · rename_i e1 e2 e3
      have e : ∀ p d, qF (px_ty a b) p d = if p = 0 then .null else .ref p := fun p d => by
        unfold qF
        split
        · exact absurd (by assumption) e1
        · exact absurd (by assumption) e2
        · exact absurd (by assumption) e3
        · rfl
      exact wp_gs hk (fun s => by rw [key s, e]; rfl) (HK _ _ _ _ _ h)
  · exact h.elim
theorem qFs_len {c a : Nat} : (qFs t D c a).length = px_N c := by unfold qFs; rw [List.length_map, List.length_range]
theorem s_pfv {a b i0 l0 o : Nat} {w : Int} {v : qV} {r : List qV} (HK : ∀ pc' L' st' t' D', K pc' L' st' t' D' → wp S m pc' L' st' t' D' Q) (hk : px_at m pc = some (.putfield i0, l0, a, b, w))
    (hs : qSt t → pz_step S (px_rt m) (.putfield i0, l0, a, b, w) pc (qcl L) (st.map qc) (qH t D) = pz_putf a b pc (qcl L) (qc v :: .ref o :: r.map qc) (qH t D))
    (hT : qSt t → (t.1 o).1 = a) (h2 : a < 10) (h3 : b < px_N a) (h : q_pfv pc L t D K a b o v r) : wp S m pc L st t D Q := by
  have key : ∀ (u : qT) (E : qD), qSt t → pz_fit (px_ty a b) (qc v) = true → pz_up (qH t D) o (.inr (.inr (a, (qFs t D a o).set b (qc v)))) = qH u E → pz_step S (px_rt m) (.putfield i0, l0, a, b, w) pc (qcl L) (st.map qc) (qH t D) = some (.inl (pc + 3, qcl L, r.map qc, qH u E)) := fun u E s hf hu => by
    rw [hs s]
    show (pz_obj (qH t D) o a).bind _ = _
    rw [qH_obj s (hT s) h2, Option.bind_some]
    rw [qFs_len, hf, show Nat.blt b (px_N a) = true from Nat.blt_eq.mpr h3]
    show pz_go _ _ _ (pz_up _ _ _) = _
    rw [hu]; rfl
  have nst : ∀ v : Nat, qEx t (t.1, upP t.2.1 o b v, t.2.2) := fun v => ⟨Nat.le_refl _, Nat.le_refl _, fun _ _ => rfl⟩
  have sup : ∀ v : Nat, qsP o b = none → qSt t → qSt (t.1, upP t.2.1 o b v, t.2.2) := fun v hp s => s.upP (fun b' hb' => by rw [show b' = b from Int.ofNat.inj hb']; exact hp)
  unfold q_pfv at h
  split at h
  · rename_i x e
    exact wp_gs hk (fun s => key t _ s (by rw [e]; rfl) (qH_upo (hT s) h2 h3 (by rw [e]; rfl))) (HK _ _ _ _ _ h)
  · rename_i x e
    obtain ⟨h4, h⟩ := chk_e h
    refine wp_gs hk (fun s => key t _ s ?_ (qH_upo (hT s) h2 h3 (by rw [e]; rfl))) (HK _ _ _ _ _ h)
    rw [e]
    rcases h4 with rfl | rfl <;> decide
  · rename_i x e
    exact wp_gs hk (fun s => key t _ s (by rw [e]; rfl) (qH_upo (hT s) h2 h3 (by rw [e]; rfl))) (HK _ _ _ _ _ h)
  · rename_i x v e
    obtain ⟨h4, h⟩ := chk_e h
    exact wp_go hk (fun s => key _ _ s (by rw [e]; rfl) (qH_upp (v := v) (hT s) h2 h3 (by rw [e]; exact if_neg h4.2))) (sup _ h4.1) (fun _ => nst _) (HK _ _ _ _ _ h)
  · rename_i x v e
    obtain ⟨h4, h⟩ := chk_e h
    refine wp_go hk (fun s => key _ _ s ?_ (qH_upp (v := v) (hT s) h2 h3 (by rw [e]; rfl))) (sup _ h4) (fun _ => nst _) (HK _ _ _ _ _ h)
    rw [e]
    show pz_fit _ (if v = 0 then Value.null else Value.ref v) = true
    split <;> rfl
  · rename_i x v e
    obtain ⟨h4, h⟩ := chk_e h
    refine wp_go hk (fun s => key _ _ s ?_ (qH_upp (v := v) (hT s) h2 h3 (by rw [e]; rfl))) (sup _ h4) (fun _ => nst _) (HK _ _ _ _ _ h)
    rw [e]
    show pz_fit _ (if v = 0 then Value.null else Value.ref v) = true
    split <;> rfl
  · exact h.elim
theorem s_pf {a b i0 l0 : Nat} {w : Int} (HK : ∀ pc' L' st' t' D', K pc' L' st' t' D' → wp S m pc' L' st' t' D' Q) (hk : px_at m pc = some (.putfield i0, l0, a, b, w)) (h : q_pf pc L st t D K a b) : wp S m pc L st t D Q := by
  unfold q_pf at h
  split at h
  · rename_i v o r
    obtain ⟨⟨h1, h2, h3⟩, h⟩ := chk_e h
    exact s_pfv HK hk (fun s => rfl) (fun s => by rw [s.sT h1 (by omega)]; exact h1) h2 h3 h
  · rename_i v o r
    obtain ⟨⟨h1, h2, h3⟩, h⟩ := chk_e h
    obtain ⟨h4, h⟩ := chk_e h
    exact s_pfv HK hk (fun s => by rw [List.map_cons, List.map_cons, qrf s (by rw [h4]; exact h1)]; rfl) (fun s => h4) h2 h3 h
  · exact h.elim
theorem s_new {a i0 l0 b : Nat} {w : Int} (HK : ∀ pc' L' st' t' D', K pc' L' st' t' D' → wp S m pc' L' st' t' D' Q) (hk : px_at m pc = some (.new i0, l0, a, b, w)) (h : q_new pc L st t D K a) : wp S m pc L st t D Q := by
  unfold q_new at h
  obtain ⟨h1, h⟩ := chk_e h
  refine wp_go hk (fun s => ?_) (fun s => s.nw (by show a ≠ 12; omega) ⟨Int.le_refl _, show (0 : Int) < 2147483648 by decide⟩) (fun s => qEx.nw (Nat.le_add_right _ _)) (HK _ _ _ _ _ h)
  show pz_go (pc + 3) _ (.ref t.2.2.1 :: _) (pz_nw (qH t D) (.inr (.inr (a, px_df a))) (px_N a)) = _
  rw [qH_nw (qE_obj h1).symm, List.map_cons, show qc (qr t.2.2.1) = .ref t.2.2.1 from if_neg (by have := s.1; omega)]
  rfl
theorem s_nwa (HK : ∀ pc' L' st' t' D', K pc' L' st' t' D' → wp S m pc' L' st' t' D' Q) (hk : px_at m pc = some (.newarray .int, z)) (h : q_nwa pc L st t D K) : wp S m pc L st t D Q := by
  unfold q_nwa at h
  split at h
  · rename_i x r
    obtain ⟨h1, h⟩ := chk_e h
    have hx : qR x := ⟨by omega, by omega⟩
    refine wp_go hk (fun s => ?_) (fun s => s.nw (by show 10 ≠ 12; decide) ⟨h1.1, by show x < 2147483648; omega⟩) (fun s => qEx.nw (Nat.le_add_right _ _)) (HK _ _ _ _ _ h)
    show (match !(decide (Int32.ofInt x < 0)) && Nat.ble ((Int32.ofInt x).toNatClampNeg * 4) 536870912 with | true => pz_go _ _ _ (pz_nw _ (.inl ((Int32.ofInt x).toNatClampNeg, fun _ => 0)) _) | false => none) = _
    rw [i32_nat hx, show (decide (Int32.ofInt x < 0)) = false from decide_eq_false (by rw [show (0 : Int32) = Int32.ofInt 0 from rfl, i32_lt hx ⟨by decide, by decide⟩]; omega), show Nat.ble (x.toNat * 4) 536870912 = true from Nat.ble_eq.mpr (by omega)]
    show pz_go (pc + 2) _ (.ref t.2.2.1 :: _) (pz_nw (qH t D) (.inl (x.toNat, fun _ => Int32.ofInt 0)) x.toNat) = _
    rw [qH_nw (k := (10, x)) (f := fun _ => 0) (qE_arr rfl).symm, List.map_cons, show qc (qr t.2.2.1) = .ref t.2.2.1 from if_neg (by have := s.1; omega)]
    rfl
  · exact h.elim
theorem s_cc {i0 : Nat} (HK : ∀ pc' L' st' t' D', K pc' L' st' t' D' → wp S m pc' L' st' t' D' Q) (hk : px_at m pc = some (.checkcast i0, z)) (h : q_cc pc L st t D K) : wp S m pc L st t D Q := by
  unfold q_cc at h
  split at h
  · rename_i a r
    obtain ⟨h1, h⟩ := chk_e h
    refine wp_gs hk (fun s => ?_) (HK _ _ _ _ _ h)
    rw [List.map_cons, qrf s (by rw [h1]; decide)]
    show (pz_arr (qH t D) a).bind _ = _
    rw [qH_arr s h1]
    rfl
  · exact h.elim
theorem qcv_app (rt : Option FieldType) (x : Int) (r : List qV) : (qcR rt x).toList ++ r.map qc = (qcv rt x ++ r).map qc := by
  unfold qcR qcv
  split <;> rfl
theorem s_call {a n : Nat} (HK : ∀ pc' L' st' t' D', K pc' L' st' t' D' → wp S m pc' L' st' t' D' Q) (hk : px_at m pc = some k) (hs : qSt t → pz_step S (px_rt m) k pc (qcl L) (st.map qc) (qH t D) = pz_call a n (st.map qc)) (h : q_call pc L st t D K S a n) : wp S m pc L st t D Q := by
  unfold q_call at h
  obtain ⟨⟨h1, h2, h3⟩, h⟩ := chk_e h
  intro s
  obtain ⟨N, x, t', D', r1, r2, r3, r4⟩ := h s
  obtain ⟨N2, x2, t2, D2, u1, u2, u3, u4⟩ := HK _ _ _ _ _ r4 r2
  refine ⟨max N N2 + 1, x2, t2, D2, ?_, u2, r3.trans u3, u4⟩
  unfold pz_run
  rw [hk]
  dsimp only
  rw [hs s]
  unfold pz_call
  rw [List.length_map, ← List.map_drop, qsum_eq, ← List.map_take, ← List.map_reverse, qsl_eq, qcl_len, show Nat.ble n st.length = true from Nat.ble_eq.mpr h1, show Nat.ble (qsum (st.drop n)) 8 = true from Nat.ble_eq.mpr h2, show Nat.ble (qsl (st.take n).reverse).length (px_ml a) = true from Nat.ble_eq.mpr h3]
  simp only [Bool.and_self]
  rw [qin_eq]
  have r1' := pz_mono _ _ _ _ _ _ _ _ r1 (max N N2) (Nat.le_max_left _ _)
  rw [List.map_nil] at r1'
  rw [r1']
  dsimp only
  rw [qcv_app]
  exact pz_mono _ _ _ _ _ _ _ _ u1 (max N N2) (Nat.le_max_right _ _)
theorem s_isp {i0 l0 a b : Nat} {w : Int} (HK : ∀ pc' L' st' t' D', K pc' L' st' t' D' → wp S m pc' L' st' t' D' Q) (hk : px_at m pc = some (.invokespecial i0, l0, a, b, w)) (h : q_isp pc L st t D K S a b) : wp S m pc L st t D Q := by
  have e : ∀ H, pz_step S (px_rt m) (.invokespecial i0, l0, a, b, w) pc (qcl L) (st.map qc) H = pz_isp a b pc (qcl L) (st.map qc) H := fun H => rfl
  unfold q_isp at h
  split at h
  · rename_i ha
    subst ha
    split at h
    · rename_i o r
      obtain ⟨h1, h⟩ := chk_e h
      refine wp_gs hk (fun s => ?_) (HK _ _ _ _ _ h)
      rw [e]
      show (match Nat.ble (pz_sum (r.map qc)) 8 with | true => _ | false => none) = _
      rw [qsum_eq, Nat.ble_eq.mpr h1]; rfl
    · rename_i o r
      obtain ⟨⟨h2, h1⟩, h⟩ := chk_e h
      refine wp_gs hk (fun s => ?_) (HK _ _ _ _ _ h)
      rw [e, List.map_cons, qrf s h2]
      show (match Nat.ble (pz_sum (r.map qc)) 8 with | true => _ | false => none) = _
      rw [qsum_eq, Nat.ble_eq.mpr h1]; rfl
    · exact h.elim
  · rename_i ha
    split at h
    · rename_i o r hr
      refine s_call HK hk (fun s => ?_) h
      rw [e]
      unfold pz_isp
      rw [if_neg ha, ← List.map_drop, hr]
      rfl
    · rename_i o r hr
      obtain ⟨h1, h⟩ := chk_e h
      refine s_call HK hk (fun s => ?_) h
      rw [e]
      unfold pz_isp
      rw [if_neg ha, ← List.map_drop, hr, List.map_cons, qrf s h1]
    · exact h.elim
theorem s_ivi {i0 l0 a b : Nat} {w : Int} (HK : ∀ pc' L' st' t' D', K pc' L' st' t' D' → wp S m pc' L' st' t' D' Q) (hk : px_at m pc = some (.invokevirtual i0, l0, a, b, w)) (h : q_ivi pc L st t D K S a b) : wp S m pc L st t D Q := by
  have e : ∀ H, pz_step S (px_rt m) (.invokevirtual i0, l0, a, b, w) pc (qcl L) (st.map qc) H = pz_ivi a b pc (qcl L) (st.map qc) H := fun H => rfl
  unfold q_ivi at h
  split at h
  · rename_i ha
    subst ha
    split at h
    · rename_i o r
      obtain ⟨h1, h⟩ := chk_e h
      obtain ⟨h2, h⟩ := chk_e h
      refine wp_go hk (fun s => ?_) (fun s => s.nw (by rw [h2]; decide) (s.2.2.2.2 o)) (fun s => qEx.nw (Nat.le_add_right _ _)) (HK _ _ _ _ _ h)
      rw [e, List.map_cons, qrf s (by rw [h2]; decide)]
      show (pz_arr (qH t D) o).bind _ = _
      rw [qH_arr s h2, Option.bind_some]
      dsimp only
      rw [qsum_eq, Nat.ble_eq.mpr h1]
      show pz_go (pc + 3) _ (.ref t.2.2.1 :: _) (pz_nw (qH t D) (.inl ((t.1 o).2.toNat, fun i : Nat => Int32.ofInt (D o i))) (t.1 o).2.toNat) = _
      rw [qH_nw (k := t.1 o) (f := D o) (qE_arr h2).symm, List.map_cons, show qc (qr t.2.2.1) = .ref t.2.2.1 from if_neg (by have := s.1; omega)]
      rfl
    · exact h.elim
  · rename_i ha
    split at h
    · rename_i o r hr
      obtain ⟨h1, h⟩ := chk_e h
      refine s_call HK hk (fun s => ?_) h
      rw [e]
      unfold pz_ivi
      rw [if_neg ha, ← List.map_drop, hr]
      show (if (pz_obj (qH t D) o (px_o a)).isSome = true then _ else none) = _
      rw [qH_obj s (by rw [s.sT h1.1 (by omega)]; exact h1.1) h1.2]
      rfl
    · rename_i o r hr
      obtain ⟨h1, h⟩ := chk_e h
      obtain ⟨h2, h⟩ := chk_e h
      refine s_call HK hk (fun s => ?_) h
      rw [e]
      unfold pz_ivi
      rw [if_neg ha, ← List.map_drop, hr, List.map_cons, qrf s (by rw [h2]; exact h1.2)]
      show (if (pz_obj (qH t D) o (px_o a)).isSome = true then _ else none) = _
      rw [qH_obj s h2 h1.1]
      rfl
    · exact h.elim
theorem qcpa_e {v : qV} {F : Nat → Int → Prop} (h : q_cpa t v F) : ∃ a n, F a n ∧ (qSt t → qc v = .ref a ∧ (t.1 a).1 = 10 ∧ (t.1 a).2 = n) := by
  unfold q_cpa at h
  split at h
  · rename_i a
    obtain ⟨h1, h⟩ := chk_e h
    refine ⟨a, _, h, fun s => ?_⟩
    have hT := s.sT h1 (by decide)
    exact ⟨rfl, by rw [hT]; exact h1, by rw [hT]⟩
  · rename_i a
    obtain ⟨h1, h⟩ := chk_e h
    exact ⟨a, _, h, fun s => ⟨qrf s (by rw [h1]; decide), h1, rfl⟩⟩
  · exact h.elim
theorem s_cpy {i0 l0 b : Nat} {w : Int} (HK : ∀ pc' L' st' t' D', K pc' L' st' t' D' → wp S m pc' L' st' t' D' Q) (hk : px_at m pc = some (.invokestatic i0, l0, 1001, b, w)) (h : q_cpy pc L st t D K) : wp S m pc L st t D Q := by
  unfold q_cpy at h
  split at h
  · rename_i n dp d0 sp e0 r
    obtain ⟨d, dn, h, hd⟩ := qcpa_e h
    obtain ⟨e, en, h, he⟩ := qcpa_e h
    obtain ⟨h1, h⟩ := chk_e h
    obtain ⟨h2, h⟩ := chk_e h
    refine wp_gs hk (fun s => ?_) (HK _ _ _ _ _ h)
    obtain ⟨d1, d2, d3⟩ := hd s
    obtain ⟨e1, e2, e3⟩ := he s
    have ld := (s.2.2.2.2 d).2
    have le := (s.2.2.2.2 e).2
    simp only [List.map_cons]
    rw [d1, e1]
    show (pz_arr (qH t D) e).bind _ = _
    rw [qH_arr s e2, Option.bind_some, qH_arr s d2, Option.bind_some]
    dsimp only
    have ng : ∀ x : Int, 0 ≤ x → x < 2147483648 → ¬ (Int32.ofInt x < 0) := fun x h1 h2 => by
      rw [show (0 : Int32) = Int32.ofInt 0 from rfl, i32_lt ⟨by omega, by omega⟩ ⟨by decide, by decide⟩]; omega
    obtain ⟨c1, c2, c3, c4, c5⟩ := h2
    rw [i32_nat (j := sp) ⟨by omega, by omega⟩, i32_nat (j := dp) ⟨by omega, by omega⟩, i32_nat (j := n) ⟨by omega, by omega⟩]
    rw [if_pos ⟨ng _ c1 (by omega), ng _ c2 (by omega), ng _ c3 (by omega), by omega, by omega, by rw [qsum_eq]; exact h1⟩]
    rw [qH_cpy d2 c1 c2 c3]
    rfl
  · exact h.elim
theorem s_mx {f : Int → Int → Int} {g : Int32 → Int32 → Int32} (hg : ∀ x y, qR x → qR y → g (Int32.ofInt x) (Int32.ofInt y) = Int32.ofInt (f x y)) (HK : ∀ pc' L' st' t' D', K pc' L' st' t' D' → wp S m pc' L' st' t' D' Q) (hk : px_at m pc = some k) (hs : ∀ h, pz_step S (px_rt m) k pc (qcl L) (st.map qc) h = pz_mx g pc (qcl L) (st.map qc) h) (h : q_mx pc L st t D K f) : wp S m pc L st t D Q := by
  unfold q_mx at h
  split at h
  · rename_i y x r
    obtain ⟨h1, h⟩ := chk_e h
    obtain ⟨h2, h⟩ := chk_e h
    obtain ⟨h3, h⟩ := chk_e h
    refine wp_gs hk (fun s => ?_) (HK _ _ _ _ _ h)
    rw [hs]
    show (match Nat.ble (pz_sum (r.map qc)) 8 with | true => pz_go _ _ (.int (g (Int32.ofInt x) (Int32.ofInt y)) :: _) _ | false => none) = _
    rw [qsum_eq, Nat.ble_eq.mpr h1, hg x y h2 h3]; rfl
  · exact h.elim
theorem s_iss {i0 l0 a b : Nat} {w : Int} (HK : ∀ pc' L' st' t' D', K pc' L' st' t' D' → wp S m pc' L' st' t' D' Q) (hk : px_at m pc = some (.invokestatic i0, l0, a, b, w)) (h : q_iss pc L st t D K S a b) : wp S m pc L st t D Q := by
  unfold q_iss at h
  split at h
  · rename_i ha
    subst ha
    exact s_cpy HK hk h
  · rename_i ha1
    split at h
    · rename_i ha
      subst ha
      refine s_mx (g := fun x y => if x < y then y else x) (fun x y hx hy => ?_) HK hk (fun H => rfl) h
      unfold qmax
      simp only [i32_lt hx hy]
      split <;> rfl
    · rename_i ha2
      split at h
      · rename_i ha
        subst ha
        refine s_mx (g := fun x y => if y < x then y else x) (fun x y hx hy => ?_) HK hk (fun H => rfl) h
        unfold qmin
        simp only [i32_lt hy hx]
        split <;> rfl
      · rename_i ha3
        refine s_call HK hk (fun s => ?_) h
        show pz_ist_ a b pc _ _ _ = _
        unfold pz_ist_
        rw [if_neg ha1, if_neg ha2, if_neg ha3]
theorem s_ret (hk : px_at m pc = some k) (hs : ∀ x : Int, st = [qi x] → ∀ h, pz_step S (px_rt m) k pc (qcl L) (st.map qc) h = pz_ret (px_rt m) (.int (Int32.ofInt x)) []) (h : q_ret st t D Q (px_rt m)) : wp S m pc L st t D Q := by
  unfold q_ret at h
  split at h
  · rename_i x e
    refine wp_rt (x := x) hk (fun s => ?_) h
    rw [hs x rfl]
    unfold qcR qcv
    rw [e]; rfl
  · rename_i x e
    obtain ⟨h1, h⟩ := chk_e h
    refine wp_rt (x := x) hk (fun s => ?_) h
    rw [hs x rfl]
    unfold qcR qcv
    rw [e]
    rcases h1 with rfl | rfl <;> rfl
  · exact h.elim
theorem s_lcm (HK : ∀ pc' L' st' t' D', K pc' L' st' t' D' → wp S m pc' L' st' t' D' Q) (hk : px_at m pc = some (.lcmp, z)) (h : q_lcm pc L st t D K) : wp S m pc L st t D Q := by
  unfold q_lcm at h
  split at h
  · rename_i y x r
    obtain ⟨h1, h⟩ := chk_e h
    refine wp_gs hk (fun s => ?_) (HK _ _ _ _ _ h)
    show pz_go (pc + 1) _ (.int (lg_cmp (Int64.ofInt x) (Int64.ofInt y)) :: _) _ = _
    have : lg_cmp (Int64.ofInt x) (Int64.ofInt y) = Int32.ofInt (qcmp x y) := by
      unfold lg_cmp qcmp
      rcases h1 with rfl | ⟨hx, hy⟩
      · rw [if_neg (show ¬ (Int64.ofInt x < Int64.ofInt x) by rw [Int64.lt_iff_toInt_lt]; omega), if_pos rfl, if_neg (by omega), if_pos rfl]; rfl
      · have e : (Int64.ofInt x = Int64.ofInt y) ↔ x = y := by
          constructor
          · intro h
            have := congrArg Int64.toInt h
            rwa [i64_int hx, i64_int hy] at this
          · rintro rfl; rfl
        have l : (Int64.ofInt x > Int64.ofInt y) ↔ y < x := by
          show (Int64.ofInt y < Int64.ofInt x) ↔ _
          rw [Int64.lt_iff_toInt_lt, i64_int hx, i64_int hy]
        simp only [e, l]
        by_cases c1 : y < x
        · rw [if_pos c1, if_neg (by omega), if_neg (by omega)]; rfl
        · rw [if_neg c1]
          by_cases c2 : x = y
          · rw [if_pos c2, if_neg (by omega), if_pos c2]; rfl
          · rw [if_neg c2, if_pos (by omega)]; rfl
    rw [this]; rfl
  · exact h.elim
end QZ3
