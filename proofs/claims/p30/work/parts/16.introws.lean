/-! ### one row each -/
theorem qsP_lt {a b v : Nat} (h : qsP a b = some v) : a < 34 ∧ (qsT a).1 < 10 ∧ v ≠ 0 := by
  unfold qsP at h
  split at h
  · rename_i l hl
    have hm : (a, l) ∈ qSP := by
      have := List.lookup_eq_some_iff.mp hl
      obtain ⟨l1, l2, e, -⟩ := this
      rw [e]; exact List.mem_append_right _ List.mem_cons_self
    have hm2 : (b, v) ∈ l := by
      have := List.lookup_eq_some_iff.mp h
      obtain ⟨l1, l2, e, -⟩ := this
      rw [e]; exact List.mem_append_right _ List.mem_cons_self
    have key : (qSP.all fun q => decide (q.1 < 34 ∧ (qsT q.1).1 < 10) && q.2.all fun w => decide (w.2 ≠ 0)) = true := by decide +kernel
    have k1 := List.all_eq_true.mp key _ hm
    rw [Bool.and_eq_true] at k1
    exact ⟨(of_decide_eq_true k1.1).1, (of_decide_eq_true k1.1).2, of_decide_eq_true (List.all_eq_true.mp k1.2 _ hm2)⟩
  · cases h
theorem qSt.sT {t : qT} (s : qSt t) {a k : Nat} (h : (qsT a).1 = k) (hk : k ≠ 12) : t.1 a = qsT a := by
  by_cases ha : a < 34
  · exact s.2.2.1 a ha
  · exfalso
    apply hk
    rw [← h]
    unfold qsT
    rw [List.getD_eq_getElem?_getD, List.getElem?_eq_none (by rw [show qST.length = 34 from rfl]; omega)]
    rfl
theorem qSt.nz {t : qT} (s : qSt t) {a : Nat} (h : (t.1 a).1 ≠ 8) : a ≠ 0 := by
  rintro rfl
  exact h (by rw [s.2.2.1 0 (by decide)]; rfl)
theorem qSt.upP {t : qT} (s : qSt t) {a : Nat} {j : Int} {v : Nat} (h : ∀ b : Nat, (b : Int) = j → qsP a b = none) : qSt (t.1, upP t.2.1 a j v, t.2.2) := by
  refine ⟨s.1, s.2.1, s.2.2.1, fun c b w hw => ?_, s.2.2.2.2⟩
  show (if c = a ∧ (b : Int) = j then v else t.2.1 c b) = w
  rw [if_neg]
  · exact s.2.2.2.1 c b w hw
  · rintro ⟨rfl, e⟩
    rw [h b e] at hw
    cases hw
theorem qSt.nw {t : qT} (s : qSt t) {k : Nat × Int} {z : Nat} (hk : k.1 ≠ 12) (hz : 0 ≤ k.2 ∧ k.2 < 2147483648) : qSt (nwT t.1 t.2.2.1 k, nwP t.2.1 t.2.2.1, (t.2.2.1 + 1, z)) := by
  obtain ⟨s1, s2, s3, s4, s5⟩ := s
  refine ⟨by show 34 ≤ t.2.2.1 + 1; omega, fun a ha => ?_, fun a ha => ?_, fun c b w hw => ?_, fun a => ?_⟩
  · show a < t.2.2.1 + 1
    by_cases h : a = t.2.2.1
    · omega
    · have := s2 a (by
        have ha : (if a = t.2.2.1 then k else t.1 a).1 ≠ 12 := ha
        rwa [if_neg h] at ha)
      omega
  · show (if a = t.2.2.1 then k else t.1 a) = qsT a
    rw [if_neg (by omega)]
    exact s3 a ha
  · show (if c = t.2.2.1 then 0 else t.2.1 c b) = w
    rw [if_neg (by have := (qsP_lt hw).1; omega)]
    exact s4 c b w hw
  · show 0 ≤ (if a = t.2.2.1 then k else t.1 a).2 ∧ (if a = t.2.2.1 then k else t.1 a).2 < 2147483648
    split
    · exact hz
    · exact s5 a
theorem qEx.nw {t : qT} {k : Nat × Int} {P : Nat → Int → Nat} {z : Nat} (hz : t.2.2.2 ≤ z) : qEx t (nwT t.1 t.2.2.1 k, P, (t.2.2.1 + 1, z)) :=
  ⟨Nat.le_succ _, hz, fun a ha => if_neg (by omega)⟩
section QZ2
variable {S : (Nat → Int32) × Nat} {m pc : Nat} {k : px_K} {L : qL} {st : List qV} {t : qT} {D : qD} {Q : Int → qT → qD → Prop} {K : qK} {z : Nat × (Nat × (Nat × Int))}
theorem qH_upp {a c b : Nat} {v : Nat} (h : (t.1 a).1 = c) (hc : c < 10) (hb : b < px_N c) {w : Value} (hv : qF (px_ty c b) v (D a b) = w) : pz_up (qH t D) a (.inr (.inr (c, (qFs t D c a).set b w))) = qH (t.1, upP t.2.1 a b v, t.2.2) D := by
  unfold pz_up
  refine Prod.ext (funext fun d => ?_) rfl
  show (if d = a then _ else qE t.1 t.2.1 D d) = qE t.1 (upP t.2.1 a b v) D d
  by_cases hd : d = a
  · subst hd
    rw [if_pos rfl]
    unfold qE
    rw [h, if_neg (by omega), if_neg (by omega), if_neg (by omega)]
    refine congrArg (fun z => Sum.inr (Sum.inr (c, z))) ?_
    apply List.ext_getElem?
    intro i
    rw [List.getElem?_set]
    unfold qFs
    rw [List.getElem?_map, List.getElem?_map, List.length_map, List.length_range]
    by_cases hi : b = i
    · subst hi
      rw [if_pos rfl, if_pos hb, List.getElem?_range hb]
      show some w = some (qF _ (if d = d ∧ (b : Int) = b then v else _) _)
      rw [if_pos ⟨rfl, rfl⟩, hv]
    · rw [if_neg hi]
      by_cases hi2 : i < px_N c
      · rw [List.getElem?_range hi2]
        show some (qF _ (t.2.1 d i) _) = some (qF _ (if d = d ∧ (i : Int) = b then v else t.2.1 d i) _)
        rw [if_neg (fun q => hi (by omega))]
      · rw [List.getElem?_eq_none (by rw [List.length_range]; omega)]
        rfl
  · rw [if_neg hd]
    have e : ∀ i, upP t.2.1 a b v d i = t.2.1 d i := fun i => if_neg (fun q => hd q.1)
    unfold qE
    simp only [e]
theorem qH_upq {a : Nat} {j : Int} {v : Nat} {w : Option Nat} (h : (t.1 a).1 = 11) (hj : 0 ≤ j) (hv : (if v = 0 then none else some v) = w) : pz_up (qH t D) a (.inr (.inl ((t.1 a).2.toNat, va_up (fun i : Nat => if t.2.1 a i = 0 then none else some (t.2.1 a i)) j.toNat w))) = qH (t.1, upP t.2.1 a j v, t.2.2) D := by
  unfold pz_up
  refine Prod.ext (funext fun b => ?_) rfl
  show (if b = a then _ else qE t.1 t.2.1 D b) = qE t.1 (upP t.2.1 a j v) D b
  by_cases hb : b = a
  · subst hb
    rw [if_pos rfl]
    unfold qE
    rw [if_neg (by rw [h]; decide), if_pos h]
    refine congrArg (fun z => Sum.inr (Sum.inl ((t.1 b).2.toNat, z))) (funext fun i => ?_)
    show (if i = j.toNat then w else _) = if (if b = b ∧ (i : Int) = j then v else t.2.1 b i) = 0 then none else some (if b = b ∧ (i : Int) = j then v else t.2.1 b i)
    by_cases hi : i = j.toNat
    · have e1 : (if b = b ∧ (i : Int) = j then v else t.2.1 b i) = v := if_pos ⟨rfl, by omega⟩
      rw [e1, hv, if_pos hi]
    · have e1 : (if b = b ∧ (i : Int) = j then v else t.2.1 b i) = t.2.1 b i := if_neg (fun q => hi (by omega))
      rw [e1, if_neg hi]
  · rw [if_neg hb]
    have e : ∀ i, upP t.2.1 a j v b i = t.2.1 b i := fun i => if_neg (fun q => hb q.1)
    unfold qE
    simp only [e]
theorem qH_nw {e : pz_E} {k : Nat × Int} {n : Nat} {f : Int → Int} (he : e = qE (nwT t.1 t.2.2.1 k) (nwP t.2.1 t.2.2.1) (upr D t.2.2.1 f) t.2.2.1) : pz_nw (qH t D) e n = qH (nwT t.1 t.2.2.1 k, nwP t.2.1 t.2.2.1, (t.2.2.1 + 1, t.2.2.2 + n)) (upr D t.2.2.1 f) := by
  unfold pz_nw
  refine Prod.ext (funext fun b => ?_) rfl
  show (if b = t.2.2.1 then e else qE t.1 t.2.1 D b) = qE _ _ _ b
  by_cases hb : b = t.2.2.1
  · subst hb
    rw [if_pos rfl, he]
  · rw [if_neg hb]
    have e1 : nwT t.1 t.2.2.1 k b = t.1 b := if_neg hb
    have e2 : ∀ i, nwP t.2.1 t.2.2.1 b i = t.2.1 b i := fun i => if_neg hb
    have e3 : upr D t.2.2.1 f b = D b := if_neg hb
    unfold qE
    simp only [e1, e2, e3]
theorem nwT_s {T : Nat → Nat × Int} {a : Nat} {k : Nat × Int} : nwT T a k a = k := if_pos rfl
theorem nwP_s {P : Nat → Int → Nat} {a : Nat} {i : Int} : nwP P a a i = 0 := if_pos rfl
theorem upr_s {D : qD} {a : Nat} {f : Int → Int} : upr D a f a = f := if_pos rfl
theorem qE_arr {T : Nat → Nat × Int} {P : Nat → Int → Nat} {f : Int → Int} {a : Nat} {k : Nat × Int} (h : k.1 = 10) : qE (nwT T a k) (nwP P a) (upr D a f) a = .inl (k.2.toNat, fun i : Nat => Int32.ofInt (f i)) := by
  unfold qE
  rw [nwT_s, if_pos h, upr_s]
theorem px_df_eq {c : Nat} (hc : c < 10) : (List.range (px_N c)).map (fun b => qF (px_ty c b) 0 0) = px_df c := px_c10 (P := fun c => (List.range (px_N c)).map (fun b => qF (px_ty c b) 0 0) = px_df c) rfl rfl rfl rfl rfl rfl rfl rfl rfl rfl hc
theorem qE_obj {T : Nat → Nat × Int} {P : Nat → Int → Nat} {a c : Nat} (hc : c < 10) : qE (nwT T a (c, 0)) (nwP P a) (upr D a (fun _ => 0)) a = .inr (.inr (c, px_df c)) := by
  unfold qE
  rw [nwT_s]
  dsimp only
  rw [if_neg (by omega), if_neg (by omega), if_neg (by omega), ← px_df_eq hc]
  refine congrArg (fun z => Sum.inr (Sum.inr (c, z))) (List.map_congr_left fun b _ => ?_)
  rw [nwP_s, upr_s]
theorem qH_cpy {d e : Nat} {sp dp n : Int} (hd : (t.1 d).1 = 10) (h1 : 0 ≤ sp) (h2 : 0 ≤ dp) (h3 : 0 ≤ n) : pz_up (qH t D) d (.inl ((t.1 d).2.toNat, va_cpy (fun i : Nat => Int32.ofInt (D e i)) (fun i : Nat => Int32.ofInt (D d i)) sp.toNat dp.toNat n.toNat)) = qH t (upr D d (q_cp (D e) (D d) sp dp n)) := by
  unfold pz_up
  refine Prod.ext (funext fun b => ?_) rfl
  show (if b = d then _ else qE t.1 t.2.1 D b) = qE t.1 t.2.1 (upr D d (q_cp (D e) (D d) sp dp n)) b
  by_cases hb : b = d
  · subst hb
    rw [if_pos rfl]
    unfold qE
    rw [if_pos hd, upr_s]
    refine congrArg _ (Prod.ext rfl (funext fun i => ?_))
    show (if dp.toNat ≤ i ∧ i < dp.toNat + n.toNat then Int32.ofInt (D e ((sp.toNat + (i - dp.toNat) : Nat) : Int)) else Int32.ofInt (D b i)) = Int32.ofInt (if dp ≤ (i : Int) ∧ (i : Int) < dp + n then D e (sp + ((i : Int) - dp)) else D b i)
    by_cases hi : dp.toNat ≤ i ∧ i < dp.toNat + n.toNat
    · rw [if_pos hi, if_pos (by omega), show ((sp.toNat + (i - dp.toNat) : Nat) : Int) = sp + ((i : Int) - dp) by omega]
    · rw [if_neg hi, if_neg (by omega)]
  · rw [if_neg hb]
    have e3 : upr D d (q_cp (D e) (D d) sp dp n) b = D b := if_neg hb
    unfold qE
    simp only [e3]
/-! the rows -/
theorem s_ild {i pc' : Nat} (HK : ∀ pc' L' st' t' D', K pc' L' st' t' D' → wp S m pc' L' st' t' D' Q) (hk : px_at m pc = some k) (hs : ∀ h, pz_step S (px_rt m) k pc (qcl L) (st.map qc) h = pz_ild i pc' (qcl L) (st.map qc) h) (h : q_ild L st t D K i pc') : wp S m pc L st t D Q := by
  unfold q_ild at h
  split at h
  · rename_i x hx
    refine wp_gs hk (fun s => ?_) (HK _ _ _ _ _ h)
    rw [hs]; unfold pz_ild; rw [qcl_get, hx]; rfl
  · exact h.elim
theorem s_lld {i pc' : Nat} (HK : ∀ pc' L' st' t' D', K pc' L' st' t' D' → wp S m pc' L' st' t' D' Q) (hk : px_at m pc = some k) (hs : ∀ h, pz_step S (px_rt m) k pc (qcl L) (st.map qc) h = pz_lld i pc' (qcl L) (st.map qc) h) (h : q_lld L st t D K i pc') : wp S m pc L st t D Q := by
  unfold q_lld at h
  split at h
  · rename_i x hx
    refine wp_gs hk (fun s => ?_) (HK _ _ _ _ _ h)
    rw [hs]; unfold pz_lld; rw [qcl_get, hx]; rfl
  · exact h.elim
theorem qc_ref (v : Nat ⊕ (Nat ⊕ Unit)) : (∃ a, qc (.inr (.inr v)) = .ref a) ∨ qc (.inr (.inr v)) = .null ∨ qc (.inr (.inr v)) = .retAddr 0 := by
  rcases v with x | x | x
  · exact .inl ⟨x, rfl⟩
  · by_cases h : x = 0
    · exact .inr (.inl (if_pos h))
    · exact .inl ⟨x, if_neg h⟩
  · exact .inr (.inr rfl)
theorem s_ald {i pc' : Nat} (HK : ∀ pc' L' st' t' D', K pc' L' st' t' D' → wp S m pc' L' st' t' D' Q) (hk : px_at m pc = some k) (hs : ∀ h, pz_step S (px_rt m) k pc (qcl L) (st.map qc) h = pz_ald i pc' (qcl L) (st.map qc) h) (h : q_ald L st t D K i pc') : wp S m pc L st t D Q := by
  unfold q_ald at h
  split at h
  · rename_i x hx
    refine wp_gs hk (fun s => ?_) (HK _ _ _ _ _ h)
    rw [hs]; unfold pz_ald; rw [qcl_get, hx, List.map_cons, Option.map_some]
    rcases qc_ref x with ⟨a, e⟩ | e | e <;> rw [e] <;> rfl
  · exact h.elim
theorem s_ist {i pc' : Nat} (HK : ∀ pc' L' st' t' D', K pc' L' st' t' D' → wp S m pc' L' st' t' D' Q) (hk : px_at m pc = some k) (hs : ∀ h, pz_step S (px_rt m) k pc (qcl L) (st.map qc) h = pz_ist i pc' (qcl L) (st.map qc) h) (h : q_ist L st t D K i pc') : wp S m pc L st t D Q := by
  unfold q_ist at h
  split at h
  · rename_i x r
    obtain ⟨⟨c1, c2⟩, h⟩ := chk_e h
    refine wp_gs hk (fun s => ?_) (HK _ _ _ _ _ h)
    rw [hs]
    show (pz_s1 (qcl L) i (qc (qi x))).bind _ = _
    rw [qcl_s1 (qi x) c1 c2]; rfl
  · exact h.elim
theorem s_lst {i pc' : Nat} (HK : ∀ pc' L' st' t' D', K pc' L' st' t' D' → wp S m pc' L' st' t' D' Q) (hk : px_at m pc = some k) (hs : ∀ h, pz_step S (px_rt m) k pc (qcl L) (st.map qc) h = pz_lst i pc' (qcl L) (st.map qc) h) (h : q_lst L st t D K i pc') : wp S m pc L st t D Q := by
  unfold q_lst at h
  split at h
  · rename_i x r
    obtain ⟨⟨c1, c2⟩, h⟩ := chk_e h
    refine wp_gs hk (fun s => ?_) (HK _ _ _ _ _ h)
    rw [hs]
    show (pz_s2 (qcl L) i (qc (ql x))).bind _ = _
    rw [qcl_s2 (ql x) c1 c2]; rfl
  · exact h.elim
theorem s_ast {i pc' : Nat} (HK : ∀ pc' L' st' t' D', K pc' L' st' t' D' → wp S m pc' L' st' t' D' Q) (hk : px_at m pc = some k) (hs : ∀ h, pz_step S (px_rt m) k pc (qcl L) (st.map qc) h = pz_ast i pc' (qcl L) (st.map qc) h) (h : q_ast L st t D K i pc') : wp S m pc L st t D Q := by
  unfold q_ast at h
  split at h
  · rename_i a r
    obtain ⟨⟨c1, c2⟩, h⟩ := chk_e h
    refine wp_gs hk (fun s => ?_) (HK _ _ _ _ _ h)
    rw [hs]
    show (pz_s1 (qcl L) i (qc (qs a))).bind _ = _
    rw [qcl_s1 (qs a) c1 c2]; rfl
  · rename_i a r
    obtain ⟨⟨c1, c2⟩, h⟩ := chk_e h
    refine wp_gs hk (fun s => ?_) (HK _ _ _ _ _ h)
    rw [hs]
    have e := qcl_s1 (qr a) c1 c2
    unfold pz_ast
    rw [List.map_cons]
    by_cases ha : a = 0
    · have : qc (qr a) = .null := if_pos ha
      rw [this] at e ⊢
      show (pz_s1 (qcl L) i .null).bind _ = _
      rw [e]; rfl
    · have : qc (qr a) = .ref a := if_neg ha
      rw [this] at e ⊢
      show (pz_s1 (qcl L) i (.ref a)).bind _ = _
      rw [e]; rfl
  · exact h.elim
theorem s_i2 {f : Int → Int → Int} {g : Int32 → Int32 → Option Int32} (hg : ∀ x y, g (Int32.ofInt x) (Int32.ofInt y) = some (Int32.ofInt (f x y))) (HK : ∀ pc' L' st' t' D', K pc' L' st' t' D' → wp S m pc' L' st' t' D' Q) (hk : px_at m pc = some k) (hs : ∀ h, pz_step S (px_rt m) k pc (qcl L) (st.map qc) h = pz_i2 g pc (qcl L) (st.map qc) h) (h : q_i2 pc L st t D K f) : wp S m pc L st t D Q := by
  unfold q_i2 at h
  split at h
  · rename_i y x r
    refine wp_gs hk (fun s => ?_) (HK _ _ _ _ _ h)
    rw [hs]
    show (g (Int32.ofInt x) (Int32.ofInt y)).bind _ = _
    rw [hg]; rfl
  · exact h.elim
theorem s_idv {f : Int → Int → Int} {g : Int32 → Int32 → Option Int32} (hg : ∀ x y, (0 ≤ x ∧ x < 2147483648) → (0 < y ∧ y < 2147483648) → g (Int32.ofInt x) (Int32.ofInt y) = some (Int32.ofInt (f x y))) (HK : ∀ pc' L' st' t' D', K pc' L' st' t' D' → wp S m pc' L' st' t' D' Q) (hk : px_at m pc = some k) (hs : ∀ h, pz_step S (px_rt m) k pc (qcl L) (st.map qc) h = pz_i2 g pc (qcl L) (st.map qc) h) (h : q_idv pc L st t D K f) : wp S m pc L st t D Q := by
  unfold q_idv at h
  split at h
  · rename_i y x r
    obtain ⟨c1, h⟩ := chk_e h
    obtain ⟨c2, h⟩ := chk_e h
    refine wp_gs hk (fun s => ?_) (HK _ _ _ _ _ h)
    rw [hs]
    show (g (Int32.ofInt x) (Int32.ofInt y)).bind _ = _
    rw [hg x y c1 c2]; rfl
  · exact h.elim
theorem s_l2 {f : Int → Int → Int} {g : Int64 → Int64 → Option Int64} (hg : ∀ x y, g (Int64.ofInt x) (Int64.ofInt y) = some (Int64.ofInt (f x y))) (HK : ∀ pc' L' st' t' D', K pc' L' st' t' D' → wp S m pc' L' st' t' D' Q) (hk : px_at m pc = some k) (hs : ∀ h, pz_step S (px_rt m) k pc (qcl L) (st.map qc) h = pz_l2 g pc (qcl L) (st.map qc) h) (h : q_l2 pc L st t D K f) : wp S m pc L st t D Q := by
  unfold q_l2 at h
  split at h
  · rename_i y x r
    refine wp_gs hk (fun s => ?_) (HK _ _ _ _ _ h)
    rw [hs]
    show (g (Int64.ofInt x) (Int64.ofInt y)).bind _ = _
    rw [hg]; rfl
  · exact h.elim
theorem s_ldv {f : Int → Int → Int} {g : Int64 → Int64 → Option Int64} (hg : ∀ x y, (0 ≤ x ∧ x < 9223372036854775808) → (0 < y ∧ y < 9223372036854775808) → g (Int64.ofInt x) (Int64.ofInt y) = some (Int64.ofInt (f x y))) (HK : ∀ pc' L' st' t' D', K pc' L' st' t' D' → wp S m pc' L' st' t' D' Q) (hk : px_at m pc = some k) (hs : ∀ h, pz_step S (px_rt m) k pc (qcl L) (st.map qc) h = pz_l2 g pc (qcl L) (st.map qc) h) (h : q_ldv pc L st t D K f) : wp S m pc L st t D Q := by
  unfold q_ldv at h
  split at h
  · rename_i y x r
    obtain ⟨c1, h⟩ := chk_e h
    obtain ⟨c2, h⟩ := chk_e h
    refine wp_gs hk (fun s => ?_) (HK _ _ _ _ _ h)
    rw [hs]
    show (g (Int64.ofInt x) (Int64.ofInt y)).bind _ = _
    rw [hg x y c1 c2]; rfl
  · exact h.elim
theorem s_lnd {g : Int64 → Int64 → Option Int64} (hg : ∀ x, g (Int64.ofInt x) (Int64.ofInt 2147483647) = some (Int64.ofInt (x % 2147483648))) (HK : ∀ pc' L' st' t' D', K pc' L' st' t' D' → wp S m pc' L' st' t' D' Q) (hk : px_at m pc = some k) (hs : ∀ h, pz_step S (px_rt m) k pc (qcl L) (st.map qc) h = pz_l2 g pc (qcl L) (st.map qc) h) (h : q_lnd pc L st t D K) : wp S m pc L st t D Q := by
  unfold q_lnd at h
  split at h
  · rename_i y x r
    obtain ⟨c1, h⟩ := chk_e h
    refine wp_gs hk (fun s => ?_) (HK _ _ _ _ _ h)
    subst c1
    rw [hs]
    show (g (Int64.ofInt x) (Int64.ofInt 2147483647)).bind _ = _
    rw [hg x]; rfl
  · exact h.elim
theorem qto_e {off : Int} {f : Nat → Prop} (h : q_to pc off f) : ∃ p, pz_tg pc off = some p ∧ f p := by
  unfold q_to at h
  split at h
  · exact ⟨_, by assumption, h⟩
  · exact h.elim
theorem pz_jq {off : Int} {p : Nat} (h : pz_tg pc off = some p) (L : pz_L) (st : List Value) (H : pz_H) : pz_jp pc off L st H = some (.inl (p, L, st, H)) := by
  unfold pz_jp
  rw [h]; rfl
theorem pz_bq {b : Bool} {off : Int} {p : Nat} (h : pz_tg pc off = some p) (L : pz_L) (st : List Value) (H : pz_H) : pz_br b pc off L st H = some (.inl (if b = true then p else pc + 3, L, st, H)) := by
  unfold pz_br
  rw [h]
  cases b <;> rfl
theorem qbr_e {c : Jvm.ClassFile.Cond} {x y : Int} (hx : qR x) (hy : qR y) {A B : Prop} (h : q_br c x y A B) : (pz_cc c (Int32.ofInt x) (Int32.ofInt y) = true ∧ A) ∨ (pz_cc c (Int32.ofInt x) (Int32.ofInt y) = false ∧ B) := by
  have e := i32_eq hx hy
  have l := i32_lt hx hy
  have l' := i32_lt hy hx
  have g := i32_le hx hy
  have g' := i32_le hy hx
  cases c <;> unfold q_br at h <;> unfold pz_cc <;> dsimp only at h ⊢ <;> simp only [e, l, l', g, g', decide_eq_true_eq, decide_eq_false_iff_not] <;> split at h <;> first | exact .inl ⟨by omega, h⟩ | exact .inr ⟨by omega, h⟩
theorem s_ic {c : Jvm.ClassFile.Cond} {off : Int} (HK : ∀ pc' L' st' t' D', K pc' L' st' t' D' → wp S m pc' L' st' t' D' Q) (hk : px_at m pc = some (.if_icmp c off, z)) (h : q_ic pc L st t D K c off) : wp S m pc L st t D Q := by
  unfold q_ic at h
  split at h
  · rename_i y x r
    obtain ⟨hx, h⟩ := chk_e h
    obtain ⟨hy, h⟩ := chk_e h
    obtain ⟨p, hp, h⟩ := qto_e h
    rcases qbr_e hx hy h with ⟨e, h⟩ | ⟨e, h⟩
    · refine wp_gs hk (fun s => ?_) (HK _ _ _ _ _ h)
      show pz_br (pz_cc c (Int32.ofInt x) (Int32.ofInt y)) pc off _ _ _ = _
      rw [pz_bq hp, e]; rfl
    · refine wp_gs hk (fun s => ?_) (HK _ _ _ _ _ h)
      show pz_br (pz_cc c (Int32.ofInt x) (Int32.ofInt y)) pc off _ _ _ = _
      rw [pz_bq hp, e]; rfl
  · exact h.elim
theorem s_if {c : Jvm.ClassFile.Cond} {off : Int} (HK : ∀ pc' L' st' t' D', K pc' L' st' t' D' → wp S m pc' L' st' t' D' Q) (hk : px_at m pc = some (.ifCond c off, z)) (h : q_if pc L st t D K c off) : wp S m pc L st t D Q := by
  unfold q_if at h
  split at h
  · rename_i x r
    obtain ⟨hx, h⟩ := chk_e h
    obtain ⟨p, hp, h⟩ := qto_e h
    rcases qbr_e hx ⟨by decide, by decide⟩ h with ⟨e, h⟩ | ⟨e, h⟩
    · refine wp_gs hk (fun s => ?_) (HK _ _ _ _ _ h)
      show pz_br (pz_cc c (Int32.ofInt x) (Int32.ofInt 0)) pc off _ _ _ = _
      rw [pz_bq hp, e]; rfl
    · refine wp_gs hk (fun s => ?_) (HK _ _ _ _ _ h)
      show pz_br (pz_cc c (Int32.ofInt x) (Int32.ofInt 0)) pc off _ _ _ = _
      rw [pz_bq hp, e]; rfl
  · exact h.elim
theorem s_nn {off : Int} (HK : ∀ pc' L' st' t' D', K pc' L' st' t' D' → wp S m pc' L' st' t' D' Q) (hk : px_at m pc = some (.ifnonnull off, z)) (h : q_nn pc L st t D K off) : wp S m pc L st t D Q := by
  unfold q_nn at h
  split at h
  · rename_i a r
    obtain ⟨p, hp, h⟩ := qto_e h
    refine wp_gs hk (fun s => ?_) (HK _ _ _ _ _ h)
    exact pz_jq hp _ _ _
  · rename_i a r
    obtain ⟨p, hp, h⟩ := qto_e h
    split at h
    · rename_i ha
      refine wp_gs hk (fun s => ?_) (HK _ _ _ _ _ h)
      rw [List.map_cons, show qc (qr a) = .null from if_pos ha]
      rfl
    · rename_i ha
      refine wp_gs hk (fun s => ?_) (HK _ _ _ _ _ h)
      rw [List.map_cons, show qc (qr a) = .ref a from if_neg ha]
      exact pz_jq hp _ _ _
  · exact h.elim
theorem qlk_e {d x : Int} {r : List qV} : ∀ (l : List (Int × Int)), q_lk pc L t D K d x r l → ∃ p, pz_tg pc (Op.lookupswitch.offset l d x) = some p ∧ K p L r t D := by
  intro l
  induction l with
  | nil => intro h; exact qto_e h
  | cons q l ih =>
    obtain ⟨a, o⟩ := q
    intro h
    unfold q_lk at h
    unfold Op.lookupswitch.offset
    split at h
    · rename_i e
      rw [if_pos e.symm]
      exact qto_e h
    · rename_i e
      rw [if_neg (fun q => e q.symm)]
      exact ih h
theorem s_lks {d : Int} {ps : Array (Int × Int)} (HK : ∀ pc' L' st' t' D', K pc' L' st' t' D' → wp S m pc' L' st' t' D' Q) (hk : px_at m pc = some (.lookupswitch d ps, z)) (h : q_lks pc L st t D K d ps.toList) : wp S m pc L st t D Q := by
  unfold q_lks at h
  split at h
  · rename_i x r
    obtain ⟨hx, h⟩ := chk_e h
    obtain ⟨hl, h⟩ := chk_e h
    obtain ⟨p, hp, h⟩ := qlk_e _ h
    refine wp_gs hk (fun s => ?_) (HK _ _ _ _ _ h)
    show (if _ then pz_jp pc (Op.lookupswitch.offset ps.toList d (Int32.ofInt x).toInt) _ _ _ else none) = _
    rw [if_pos hl, i32_int hx]
    exact pz_jq hp _ _ _
  · exact h.elim
theorem qtb_e {d x : Int} {r : List qV} : ∀ (l : List Int) (i : Int), q_tb pc L t D K d x r i l → ∃ p, pz_tg pc (if x < i ∨ i + l.length ≤ x then d else l.getD (x - i).toNat 0) = some p ∧ K p L r t D := by
  intro l
  induction l with
  | nil =>
    intro i h
    rw [if_pos (by simp only [List.length_nil]; omega)]
    exact qto_e h
  | cons o l ih =>
    intro i h
    unfold q_tb at h
    split at h
    · rename_i e
      rw [if_neg (by simp only [List.length_cons]; omega), e, Int.sub_self]
      exact qto_e h
    · rename_i e
      obtain ⟨p, hp, h⟩ := ih (i + 1) h
      refine ⟨p, ?_, h⟩
      rw [← hp]
      congr 1
      simp only [List.length_cons]
      by_cases c : x < i + 1 ∨ i + 1 + l.length ≤ x
      · rw [if_pos c, if_pos (by omega)]
      · rw [if_neg c, if_neg (by omega), show (x - i).toNat = (x - (i + 1)).toNat + 1 by omega, List.getD_cons_succ]
theorem s_tbs {d lo hi : Int} {os : Array Int} (HK : ∀ pc' L' st' t' D', K pc' L' st' t' D' → wp S m pc' L' st' t' D' Q) (hk : px_at m pc = some (.tableswitch d lo hi os, z)) (h : q_tbs pc L st t D K d lo hi os.toList) : wp S m pc L st t D Q := by
  unfold q_tbs at h
  split at h
  · rename_i x r
    obtain ⟨hx, h⟩ := chk_e h
    obtain ⟨hl, h⟩ := chk_e h
    obtain ⟨p, hp, h⟩ := qtb_e _ _ h
    refine wp_gs hk (fun s => ?_) (HK _ _ _ _ _ h)
    show (if (Int32.ofInt x).toInt < lo ∨ hi < (Int32.ofInt x).toInt then pz_jp pc d _ _ _ else (os[((Int32.ofInt x).toInt - lo).toNat]?).bind fun o => pz_jp pc o _ _ _) = _
    rw [i32_int hx]
    by_cases c : x < lo ∨ hi < x
    · rw [if_pos c]
      rw [if_pos (by omega)] at hp
      exact pz_jq hp _ _ _
    · rw [if_neg c]
      rw [if_neg (by omega)] at hp
      rw [← Array.getElem?_toList]
      rw [List.getD_eq_getElem?_getD] at hp
      have hlt : (x - lo).toNat < os.toList.length := by omega
      rw [List.getElem?_eq_getElem hlt] at hp ⊢
      exact pz_jq hp _ _ _
  · exact h.elim
end QZ2
