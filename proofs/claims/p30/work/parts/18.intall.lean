section QZ4
variable {S : (Nat → Int32) × Nat} {m pc : Nat} {k : px_K} {L : qL} {st : List qV} {t : qT} {D : qD} {Q : Int → qT → qD → Prop} {K : qK}
theorem i32_div {x y : Int} (hx : 0 ≤ x ∧ x < 2147483648) (hy : 0 < y ∧ y < 2147483648) : Int32.ofInt x / Int32.ofInt y = Int32.ofInt (x / y) := by
  rw [← Int32.ofInt_tdiv (by show (-2147483648 : Int) ≤ x; omega) (by show x ≤ (2147483647 : Int); omega) (by show (-2147483648 : Int) ≤ y; omega) (by show y ≤ (2147483647 : Int); omega), Int.tdiv_eq_ediv_of_nonneg hx.1]
theorem i64_div {x y : Int} (hx : 0 ≤ x ∧ x < 9223372036854775808) (hy : 0 < y ∧ y < 9223372036854775808) : Int64.ofInt x / Int64.ofInt y = Int64.ofInt (x / y) := by
  rw [← Int64.ofInt_tdiv (by show (-9223372036854775808 : Int) ≤ x; omega) (by show x ≤ (9223372036854775807 : Int); omega) (by show (-9223372036854775808 : Int) ≤ y; omega) (by show y ≤ (9223372036854775807 : Int); omega), Int.tdiv_eq_ediv_of_nonneg hx.1]
theorem i32_nz {y : Int} (hy : 0 < y ∧ y < 2147483648) : ¬ Int32.ofInt y = 0 := by
  rw [show (0 : Int32) = Int32.ofInt 0 from rfl, i32_eq ⟨by omega, by omega⟩ ⟨by decide, by decide⟩]; omega
theorem i64_nz {y : Int} (hy : 0 < y ∧ y < 9223372036854775808) : ¬ Int64.ofInt y = 0 := by
  intro h
  have := congrArg Int64.toInt h
  rw [i64_int ⟨by omega, by omega⟩] at this
  have e : (0 : Int64).toInt = 0 := rfl
  omega
theorem i64_and (x : Int) : Int64.ofInt x &&& Int64.ofInt 2147483647 = Int64.ofInt (x % 2147483648) := by
  rw [← Int64.toBitVec_inj, Int64.toBitVec_and]
  apply BitVec.eq_of_toNat_eq
  rw [BitVec.toNat_and]
  have e : ∀ y : Int, (Int64.ofInt y).toBitVec.toNat = (y % 18446744073709551616).toNat := fun y => by
    show (BitVec.ofInt 64 y).toNat = _
    rw [BitVec.toNat_ofInt]; rfl
  rw [e, e, e, show ((2147483647 : Int) % 18446744073709551616).toNat = 2 ^ 31 - 1 from rfl, Nat.and_two_pow_sub_one_eq_mod]
  omega
theorem qstep_ok (HK : ∀ pc' L' st' t' D', K pc' L' st' t' D' → wp S m pc' L' st' t' D' Q) (hk : px_at m pc = some k) (h : qstep pc L st t D K Q S (px_rt m) k) : wp S m pc L st t D Q := by
  obtain ⟨i, l0, a, b, w⟩ := k
  unfold qstep at h
  dsimp only at h
  split at h
  · exact wp_gs hk (fun s => rfl) (HK _ _ _ _ _ h)
  · rename_i n
    obtain ⟨h1, h⟩ := chk_e h
    refine wp_gs hk (fun s => ?_) (HK _ _ _ _ _ h)
    show pz_go (pc + 2) _ (.int (Int8.ofInt n).toInt32 :: _) _ = _
    rw [Int8.toInt32_ofInt (show (-128 : Int) ≤ n by omega) (show n ≤ (127 : Int) by omega)]; rfl
  · rename_i n
    obtain ⟨h1, h⟩ := chk_e h
    refine wp_gs hk (fun s => ?_) (HK _ _ _ _ _ h)
    show pz_go (pc + 3) _ (.int (Int16.ofInt n).toInt32 :: _) _ = _
    rw [Int16.toInt32_ofInt (show (-32768 : Int) ≤ n by omega) (show n ≤ (32767 : Int) by omega)]; rfl
  · refine wp_gs hk (fun s => ?_) (HK _ _ _ _ _ h)
    rename_i n
    show pz_go (pc + 1) _ (.long (Int64.ofNat (n : Nat)) :: _) _ = _
    rw [← Int64.ofInt_eq_ofNat]; rfl
  · exact wp_gs hk (fun s => rfl) (HK _ _ _ _ _ h)
  · exact wp_gs hk (fun s => rfl) (HK _ _ _ _ _ h)
  · exact wp_gs hk (fun s => rfl) (HK _ _ _ _ _ h)
  · exact wp_gs hk (fun s => rfl) (HK _ _ _ _ _ h)
  · exact s_ild HK hk (fun H => rfl) h
  · exact s_ild HK hk (fun H => rfl) h
  · exact s_lld HK hk (fun H => rfl) h
  · exact s_lld HK hk (fun H => rfl) h
  · exact s_ald HK hk (fun H => rfl) h
  · exact s_ald HK hk (fun H => rfl) h
  · exact s_ist HK hk (fun H => rfl) h
  · exact s_ist HK hk (fun H => rfl) h
  · exact s_lst HK hk (fun H => rfl) h
  · exact s_lst HK hk (fun H => rfl) h
  · exact s_ast HK hk (fun H => rfl) h
  · exact s_ast HK hk (fun H => rfl) h
  · split at h
    · rename_i i n _ x hx
      obtain ⟨h1, h⟩ := chk_e h
      refine wp_gs hk (fun s => ?_) (HK _ _ _ _ _ h)
      show (match pz_get (qcl L) i with | some (.int x) => (pz_s1 (qcl L) i (.int (x + Int32.ofInt n))).bind fun L' => pz_go (pc + 3) L' _ _ | _ => none) = _
      rw [qcl_get, hx]
      show (pz_s1 (qcl L) i (.int (Int32.ofInt x + Int32.ofInt n))).bind _ = _
      rw [← Int32.ofInt_add]
      have := qcl_s1 (qi (x + n)) h1.1 h1.2
      show (pz_s1 (qcl L) i (qc (qi (x + n)))).bind _ = _
      rw [this]; rfl
    · exact h.elim
  · exact s_i2 (fun x y => by rw [Int32.ofInt_add]) HK hk (fun H => rfl) h
  · exact s_i2 (fun x y => by rw [Int32.ofInt_sub]) HK hk (fun H => rfl) h
  · exact s_i2 (fun x y => by rw [Int32.ofInt_mul]) HK hk (fun H => rfl) h
  · exact s_i2 (fun x y => by unfold qand; rw [Int32.ofInt_toInt]) HK hk (fun H => rfl) h
  · exact s_i2 (fun x y => by unfold qor; rw [Int32.ofInt_toInt]) HK hk (fun H => rfl) h
  · exact s_i2 (fun x y => by unfold qshl; rw [Int32.ofInt_toInt]) HK hk (fun H => rfl) h
  · exact s_i2 (fun x y => by unfold qshr; rw [Int32.ofInt_toInt]) HK hk (fun H => rfl) h
  · exact s_i2 (fun x y => by unfold qusr; rw [Int32.ofInt_toInt]) HK hk (fun H => rfl) h
  · exact s_idv (fun x y hx hy => by rw [if_neg (i32_nz hy), i32_div hx hy]) HK hk (fun H => rfl) h
  · exact s_idv (fun x y hx hy => by rw [if_neg (i32_nz hy), i32_div hx hy, ← Int32.ofInt_mul, ← Int32.ofInt_sub, Int.emod_def, Int.mul_comm]) HK hk (fun H => rfl) h
  · exact s_l2 (fun x y => by rw [Int64.ofInt_add]) HK hk (fun H => rfl) h
  · exact s_l2 (fun x y => by rw [Int64.ofInt_mul]) HK hk (fun H => rfl) h
  · exact s_lnd (fun x => by rw [i64_and]) HK hk (fun H => rfl) h
  · exact s_ldv (fun x y hx hy => by rw [if_neg (i64_nz hy), i64_div hx hy]) HK hk (fun H => rfl) h
  · exact s_ldv (fun x y hx hy => by rw [if_neg (i64_nz hy), i64_div hx hy, ← Int64.ofInt_mul, ← Int64.ofInt_sub, Int.emod_def, Int.mul_comm]) HK hk (fun H => rfl) h
  · exact s_lcm HK hk h
  · split at h
    · rename_i x r
      obtain ⟨h1, h⟩ := chk_e h
      refine wp_gs hk (fun s => ?_) (HK _ _ _ _ _ h)
      show pz_go (pc + 1) _ (.long (Int32.ofInt x).toInt64 :: _) _ = _
      rw [Int32.toInt64_ofInt (show (-2147483648 : Int) ≤ x by omega) (show x ≤ (2147483647 : Int) by omega)]; rfl
    · exact h.elim
  · split at h
    · rename_i x r
      refine wp_gs hk (fun s => ?_) (HK _ _ _ _ _ h)
      show pz_go (pc + 1) _ (.int (Int64.ofInt x).toInt32 :: _) _ = _
      rw [Int64.toInt32_ofInt]; rfl
    · exact h.elim
  · split at h
    · rename_i v r
      obtain ⟨h1, h⟩ := chk_e h
      refine wp_gs hk (fun s => ?_) (HK _ _ _ _ _ h)
      show (if (qc v).category = 1 then _ else none) = _
      rw [qc_cat, if_pos h1]; rfl
    · exact h.elim
  · split at h
    · rename_i v u r
      obtain ⟨h1, h⟩ := chk_e h
      refine wp_gs hk (fun s => ?_) (HK _ _ _ _ _ h)
      show (if (qc v).category = 1 ∧ (qc u).category = 1 then _ else none) = _
      rw [qc_cat, qc_cat, if_pos h1]; rfl
    · exact h.elim
  · obtain ⟨p, hp, h⟩ := qto_e h
    exact wp_gs hk (fun s => pz_jq hp _ _ _) (HK _ _ _ _ _ h)
  · exact s_if HK hk h
  · exact s_ic HK hk h
  · exact s_nn HK hk h
  · exact s_lks HK hk h
  · exact s_tbs HK hk h
  · exact s_iald HK hk h
  · exact s_iast HK hk h
  · exact s_aald HK hk h
  · exact s_aast HK hk h
  · exact s_alen HK hk h
  · exact s_gf HK hk h
  · exact s_pf HK hk h
  · exact s_new HK hk h
  · exact s_nwa HK hk h
  · exact s_cc HK hk h
  · exact s_isp HK hk h
  · exact s_ivi HK hk h
  · exact s_iss HK hk h
  · refine s_ret hk (fun x e H => ?_) h
    rw [e]; rfl
  · split at h
    · rename_i x e
      refine wp_rt (x := x) hk (fun s => ?_) h
      show pz_ret (px_rt m) (.long (Int64.ofInt x)) [] = _
      unfold qcR qcv
      rw [e]; rfl
    · exact h.elim
  · split at h
    · rename_i x c e
      refine wp_rt (x := (x : Int)) hk (fun s => ?_) h
      unfold qcR qcv
      rw [e]
      show (match ([qc (qr x)] : List Value) with | .ref v :: r => pz_ret _ (.ref v) r | .null :: r => pz_ret _ .null r | _ => none) = some (.inr (.inl (some (qc (qr x)))))
      by_cases hx : x = 0
      · rw [show qc (qr x) = .null from if_pos hx]; rfl
      · rw [show qc (qr x) = .ref x from if_neg hx]; rfl
    · exact h.elim
  · split at h
    · rename_i e
      refine wp_rt (x := 0) hk (fun s => ?_) h
      show ((match ([] : List Value), px_rt m with | [], none => some (.inr (.inl none)) | _, _ => none) : Option pz_X) = _
      unfold qcR qcv
      rw [e]; rfl
    · exact h.elim
  · exact h.elim
theorem vc_ok {cuts : List Nat} : ∀ (n pc : Nat) (L : qL) (st : List qV) (t : qT) (D : qD), vc S m cuts Q n pc L st t D → wp S m pc L st t D Q := by
  intro n
  induction n with
  | zero => intro pc L st t D h; exact h
  | succ n ih =>
    intro pc L st t D h
    unfold vc at h
    split at h
    · rename_i k hk
      refine qstep_ok (fun pc' L' st' t' D' h => ?_) hk h
      split at h
      · exact h
      · exact ih _ _ _ _ _ h
    · exact h.elim
end QZ4
