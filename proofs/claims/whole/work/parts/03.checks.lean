/-! ## what the tables say is so: decided by the kernel -/
def px_dk (m : Nat) (q : Nat × px_K) : Bool := match decode (px_c m) q.1 with
  | .ok p => decide (p.1 = q.2.1) && (p.2 == q.2.2.1)
  | _ => false
def px_jk (m i : Nat) (k : px_K) : Bool := (px_jl.any fun q => q.1 == px_o m && q.2.1 == i && q.2.2.1 == k.2.2.1 && q.2.2.2.1 == k.2.2.2.2.toNat) && Nat.blt k.2.2.1 188 && k.2.2.2.1 == px_np k.2.2.1 && Nat.ble (px_fr k.2.2.1 + 1) (px_fr m) && Nat.ble (19 + px_ml k.2.2.1 + px_lo k.2.2.1) (px_lo m)
def px_xk (m i a : Nat) : Bool := (px_xl.any fun q => q.1 == px_o m && q.2.1 == i && q.2.2.1 == a) && Nat.ble 1 (px_fr m) && Nat.ble 30 (px_lo m)
def px_fk (m i a b : Nat) : Bool := (px_fl.any fun q => q.1 == px_o m && q.2.1 == i && q.2.2.1 == a && q.2.2.2.1 == b) && Nat.blt a 10 && Nat.blt b (px_N a)
def px_nk (m i a : Nat) : Bool := (px_nl.any fun q => q.1 == px_o m && q.2.1 == i && q.2.2.1 == a) && Nat.blt a 10
def px_lk (m : Nat) (k : px_K) : Bool := match k.1 with
  | .getfield i => px_fk m i k.2.2.1 k.2.2.2.1
  | .putfield i => px_fk m i k.2.2.1 k.2.2.2.1 && (!(px_T k.2.2.1 k.2.2.2.1).2.2.2 || (decide ((px_y m).name = "<init>") && decide ((px_T k.2.2.1 k.2.2.2.1).1 = px_R (px_o m))))
  | .new i => px_nk m i k.2.2.1 && k.2.2.2.1 == px_N k.2.2.1
  | .anewarray i => px_nk m i 3
  | .checkcast i => px_il.any fun q => q.1 == px_o m && q.2.1 == i
  | .ldc_w i => px_kl.any fun q => q.1 == px_o m && q.2.1 == i && decide (q.2.2.1 = k.2.2.2.2) && q.2.2.2.1 == 0
  | .ldc2_w i => px_kl.any fun q => q.1 == px_o m && q.2.1 == i && decide (q.2.2.1 = k.2.2.2.2) && q.2.2.2.1 == 1
  | .invokespecial i => if k.2.2.1 = 1000 then px_xk m i 1000 else px_jk m i k && (px_ms k.2.2.1).2.1 == 0 && decide ((px_y k.2.2.1).name = "<init>") && decide (px_rt k.2.2.1 = none)
  | .invokevirtual i => if k.2.2.1 = 1002 then px_xk m i 1002 else px_jk m i k && (px_ms k.2.2.1).2.1 == 0 && !((px_ms k.2.2.1).2.2.2.1 == 9999) && Nat.blt (px_o k.2.2.1) 10
  | .invokestatic i => if k.2.2.1 = 1001 then px_xk m i 1001 else if k.2.2.1 = 1003 then px_xk m i 1003 else if k.2.2.1 = 1004 then px_xk m i 1004 else px_jk m i k && (px_ms k.2.2.1).2.1 == 1
  | _ => true
def px_mk (m : Nat) : Bool :=
  decide (lw_tbl[(px_ms m).2.2.2.2]? = some (.initialized (px_y m).cls)) &&
  (if (px_ms m).2.1 = 1 then decide (lw_tbl[(px_ms m).2.2.1]? = some (.static (px_y m))) else decide (lw_tbl[(px_ms m).2.2.1]? = some (.instanceMethod (px_y m)))) &&
  ((px_ms m).2.2.2.1 == 9999 || decide (lw_tbl[(px_ms m).2.2.2.1]? = some (.selects (px_y m).cls (px_y m) (px_y m)))) &&
  decide ((parseMethodDescriptor (px_y m).desc).map (fun d => d.parameters.length) = some (px_np m)) &&
  decide ((px_y m).cls ≠ "java/lang/invoke/MethodHandle") && decide ((px_y m).cls ≠ "java/lang/invoke/VarHandle") && plainName (px_y m).cls && decide ((px_y m).cls = px_R (px_o m))
def px_gt : List Cond := lw_tbl.filter goodWord
theorem px_in {w : Cond} (h : w ∈ lw_tbl) (g : goodWord w = true) : w ∈ px_gt := List.mem_filter.mpr ⟨h, g⟩
set_option maxRecDepth 100000 in
theorem px_fl_k : (px_fl.all fun q => decide (lw_tbl[q.2.2.2.2]? = some (.fieldLink (px_R q.1) q.2.1 (px_T q.2.2.1 q.2.2.2.1).1 (px_T q.2.2.1 q.2.2.2.1).2.1 (px_T q.2.2.1 q.2.2.2.1).2.2.1))) = true := by decide +kernel
set_option maxRecDepth 100000 in
theorem px_nl_k : (px_nl.all fun q => decide (lw_tbl[q.2.2.2.1]? = some (.classLink (px_R q.1) q.2.1 (px_R q.2.2.1))) && decide (lw_tbl[q.2.2.2.2.1]? = some (.instantiable (px_R q.2.2.1) (px_N q.2.2.1))) && decide (lw_tbl[q.2.2.2.2.2]? = some (.initialized (px_R q.2.2.1)))) = true := by decide +kernel
set_option maxRecDepth 100000 in
theorem px_il_k : (px_il.all fun q => decide (lw_tbl[q.2.2]? = some (.classLink (px_R q.1) q.2.1 "[I"))) = true := by decide +kernel
set_option maxRecDepth 100000 in
theorem px_jl_k : (px_jl.all fun q => decide (lw_tbl[q.2.2.2.2]? = some (if q.2.2.2.1 = 1 then .methodLinkNest (px_R q.1) q.2.1 (px_y q.2.2.1) RX8 else .methodLink (px_R q.1) q.2.1 (px_y q.2.2.1)))) = true := by decide +kernel
def px_xn (a : Nat) : MethodName := if a = 1000 then objectInit else if a = 1001 then arraycopyName else if a = 1003 then Lib.Math.max.name else if a = 1004 then Lib.Math.min.name else ⟨"[I", "clone", "()Ljava/lang/Object;"⟩
set_option maxRecDepth 100000 in
theorem px_xl_k : (px_xl.all fun q => decide (lw_tbl[q.2.2.2]? = some (.methodLink (px_R q.1) q.2.1 (px_xn q.2.2.1)))) = true := by decide +kernel
set_option maxRecDepth 100000 in
theorem px_kl_k : (px_kl.all fun q => decide (lw_tbl[q.2.2.2.2]? = some (if q.2.2.2.1 = 1 then .constantLong (px_R q.1) q.2.1 (Int64.ofInt q.2.2.1) else .constant (px_R q.1) q.2.1 (Int32.ofInt q.2.2.1)))) = true := by decide +kernel
set_option maxRecDepth 100000 in
theorem px_w_arr : Cond.arrayClass .int ∈ lw_tbl ∧ Cond.arrayOver (.object RX3) ∈ lw_tbl ∧ Cond.instanceMethod objectInit ∈ lw_tbl ∧ Cond.code objectInit ⟨#[0xb1]⟩ 1 none ∈ lw_tbl ∧ Cond.native arraycopyName ∈ lw_tbl ∧ Cond.static arraycopyName ∈ lw_tbl ∧ Cond.initialized "java/lang/System" ∈ lw_tbl ∧ Cond.static Lib.Math.max.name ∈ lw_tbl ∧ Cond.static Lib.Math.min.name ∈ lw_tbl ∧ Cond.initialized "java/lang/Math" ∈ lw_tbl ∧ Cond.code Lib.Math.max.name Lib.Math.max.code 2 (some .int) ∈ lw_tbl ∧ Cond.code Lib.Math.min.name Lib.Math.min.code 2 (some .int) ∈ lw_tbl := by decide +kernel
set_option maxRecDepth 100000 in
theorem px_w_cl : Cond.sameMethod "[I" "java/lang/Object" "clone" "()Ljava/lang/Object;" ∈ lw_tbl ∧ Cond.native ⟨"java/lang/Object", "clone", "()Ljava/lang/Object;"⟩ ∈ lw_tbl ∧ Cond.instanceMethod ⟨"java/lang/Object", "clone", "()Ljava/lang/Object;"⟩ ∈ lw_tbl ∧ Cond.selects "[I" ⟨"[I", "clone", "()Ljava/lang/Object;"⟩ ⟨"java/lang/Object", "clone", "()Ljava/lang/Object;"⟩ ∈ lw_tbl ∧ Cond.castable "[I" "java/lang/Cloneable" ∈ lw_tbl := by decide +kernel
set_option maxRecDepth 100000 in
theorem px_mk_k : ((List.range 188).all px_mk) = true := by decide +kernel
set_option maxRecDepth 100000 in
theorem px_lk_k : ((List.range 189).all fun m => (px_tab m).all fun q => px_lk m q.2) = true := by decide +kernel

set_option maxRecDepth 100000 in
theorem px_dk_0 : (([0, 1, 2, 3, 4, 5, 6, 7, 8, 9, 10, 11, 12, 13, 14, 15, 16, 17] : List Nat).all fun m => (px_tab m).all (px_dk m)) = true := by decide +kernel
set_option maxRecDepth 100000 in
theorem px_dk_1 : (([18, 19, 20, 21, 22, 23, 24, 25, 26, 27, 28, 29] : List Nat).all fun m => (px_tab m).all (px_dk m)) = true := by decide +kernel
set_option maxRecDepth 100000 in
theorem px_dk_2 : (([30, 31, 32, 33, 34, 35, 36] : List Nat).all fun m => (px_tab m).all (px_dk m)) = true := by decide +kernel
set_option maxRecDepth 100000 in
theorem px_dk_3 : (([37, 38, 39, 40, 41, 42, 43, 44, 45, 46, 47] : List Nat).all fun m => (px_tab m).all (px_dk m)) = true := by decide +kernel
set_option maxRecDepth 100000 in
theorem px_dk_4 : (([48, 49, 50, 51, 52, 53, 54, 55] : List Nat).all fun m => (px_tab m).all (px_dk m)) = true := by decide +kernel
set_option maxRecDepth 100000 in
theorem px_dk_5 : (([56, 57, 58, 59, 60, 61, 62, 63] : List Nat).all fun m => (px_tab m).all (px_dk m)) = true := by decide +kernel
set_option maxRecDepth 100000 in
theorem px_dk_6 : (([64, 65, 66, 67, 68, 69, 70, 71, 72, 73] : List Nat).all fun m => (px_tab m).all (px_dk m)) = true := by decide +kernel
set_option maxRecDepth 100000 in
theorem px_dk_7 : (([74, 75, 76, 77, 78, 79, 80, 81, 82, 83] : List Nat).all fun m => (px_tab m).all (px_dk m)) = true := by decide +kernel
set_option maxRecDepth 100000 in
theorem px_dk_8 : (([84, 85, 86, 87, 88, 89, 90, 91, 92] : List Nat).all fun m => (px_tab m).all (px_dk m)) = true := by decide +kernel
set_option maxRecDepth 100000 in
theorem px_dk_9 : (([93, 95, 96, 97, 98, 99, 100, 101, 102, 103, 104, 105, 106, 107, 108] : List Nat).all fun m => (px_tab m).all (px_dk m)) = true := by decide +kernel
set_option maxRecDepth 100000 in
theorem px_dk_10 : (([109, 110, 111, 112, 113, 114, 115, 116, 117] : List Nat).all fun m => (px_tab m).all (px_dk m)) = true := by decide +kernel
set_option maxRecDepth 100000 in
theorem px_dk_11 : (([118, 119, 120, 121, 122, 123, 124, 128, 129] : List Nat).all fun m => (px_tab m).all (px_dk m)) = true := by decide +kernel
set_option maxRecDepth 100000 in
theorem px_dk_12 : (([130, 131, 132, 133, 134, 135, 136, 137] : List Nat).all fun m => (px_tab m).all (px_dk m)) = true := by decide +kernel
set_option maxRecDepth 100000 in
theorem px_dk_13 : (([138, 139, 140, 141, 142, 143, 144, 145] : List Nat).all fun m => (px_tab m).all (px_dk m)) = true := by decide +kernel
set_option maxRecDepth 100000 in
theorem px_dk_14 : (([146, 147, 148, 149, 150, 151, 152, 153] : List Nat).all fun m => (px_tab m).all (px_dk m)) = true := by decide +kernel
set_option maxRecDepth 100000 in
theorem px_dk_15 : (([154, 155, 156, 157, 158, 159, 160, 161, 162, 163] : List Nat).all fun m => (px_tab m).all (px_dk m)) = true := by decide +kernel
set_option maxRecDepth 100000 in
theorem px_dk_16 : (([164, 165, 166, 167, 168] : List Nat).all fun m => (px_tab m).all (px_dk m)) = true := by decide +kernel
set_option maxRecDepth 100000 in
theorem px_dk_17 : (([169, 170, 171, 172, 173, 174, 175, 176, 177, 178] : List Nat).all fun m => (px_tab m).all (px_dk m)) = true := by decide +kernel
set_option maxRecDepth 100000 in
theorem px_dk_18 : (([179, 180, 181, 182, 183, 184, 185, 187] : List Nat).all fun m => (px_tab m).all (px_dk m)) = true := by decide +kernel
set_option maxRecDepth 100000 in
theorem px_dl_94_0 : (((px_tab 94).drop 0).take 70).all (px_dk 94) = true := by decide +kernel
set_option maxRecDepth 100000 in
theorem px_dl_94_70 : (((px_tab 94).drop 70).take 70).all (px_dk 94) = true := by decide +kernel
set_option maxRecDepth 100000 in
theorem px_dm_94 : (px_tab 94).all (px_dk 94) = true := by
  have e : px_tab 94 = ((px_tab 94).drop 0).take 70 ++ ((px_tab 94).drop 70).take 70 := by rfl
  rw [e]
  simp only [List.all_append, px_dl_94_0, px_dl_94_70, Bool.and_self]
set_option maxRecDepth 100000 in
theorem px_dl_125_0 : (((px_tab 125).drop 0).take 70).all (px_dk 125) = true := by decide +kernel
set_option maxRecDepth 100000 in
theorem px_dl_125_70 : (((px_tab 125).drop 70).take 70).all (px_dk 125) = true := by decide +kernel
set_option maxRecDepth 100000 in
theorem px_dm_125 : (px_tab 125).all (px_dk 125) = true := by
  have e : px_tab 125 = ((px_tab 125).drop 0).take 70 ++ ((px_tab 125).drop 70).take 70 := by rfl
  rw [e]
  simp only [List.all_append, px_dl_125_0, px_dl_125_70, Bool.and_self]
set_option maxRecDepth 100000 in
theorem px_dl_126_0 : (((px_tab 126).drop 0).take 70).all (px_dk 126) = true := by decide +kernel
set_option maxRecDepth 100000 in
theorem px_dl_126_70 : (((px_tab 126).drop 70).take 70).all (px_dk 126) = true := by decide +kernel
set_option maxRecDepth 100000 in
theorem px_dl_126_140 : (((px_tab 126).drop 140).take 70).all (px_dk 126) = true := by decide +kernel
set_option maxRecDepth 100000 in
theorem px_dm_126 : (px_tab 126).all (px_dk 126) = true := by
  have e : px_tab 126 = ((px_tab 126).drop 0).take 70 ++ ((px_tab 126).drop 70).take 70 ++ ((px_tab 126).drop 140).take 70 := by rfl
  rw [e]
  simp only [List.all_append, px_dl_126_0, px_dl_126_70, px_dl_126_140, Bool.and_self]
set_option maxRecDepth 100000 in
theorem px_dl_127_0 : (((px_tab 127).drop 0).take 70).all (px_dk 127) = true := by decide +kernel
set_option maxRecDepth 100000 in
theorem px_dl_127_70 : (((px_tab 127).drop 70).take 70).all (px_dk 127) = true := by decide +kernel
set_option maxRecDepth 100000 in
theorem px_dm_127 : (px_tab 127).all (px_dk 127) = true := by
  have e : px_tab 127 = ((px_tab 127).drop 0).take 70 ++ ((px_tab 127).drop 70).take 70 := by rfl
  rw [e]
  simp only [List.all_append, px_dl_127_0, px_dl_127_70, Bool.and_self]
set_option maxRecDepth 100000 in
theorem px_dl_186_0 : (((px_tab 186).drop 0).take 70).all (px_dk 186) = true := by decide +kernel
set_option maxRecDepth 100000 in
theorem px_dl_186_70 : (((px_tab 186).drop 70).take 70).all (px_dk 186) = true := by decide +kernel
set_option maxRecDepth 100000 in
theorem px_dm_186 : (px_tab 186).all (px_dk 186) = true := by
  have e : px_tab 186 = ((px_tab 186).drop 0).take 70 ++ ((px_tab 186).drop 70).take 70 := by rfl
  rw [e]
  simp only [List.all_append, px_dl_186_0, px_dl_186_70, Bool.and_self]
set_option maxRecDepth 100000 in
theorem px_dl_188_0 : (((px_tab 188).drop 0).take 70).all (px_dk 188) = true := by decide +kernel
set_option maxRecDepth 100000 in
theorem px_dl_188_70 : (((px_tab 188).drop 70).take 70).all (px_dk 188) = true := by decide +kernel
set_option maxRecDepth 100000 in
theorem px_dl_188_140 : (((px_tab 188).drop 140).take 70).all (px_dk 188) = true := by decide +kernel
set_option maxRecDepth 100000 in
theorem px_dl_188_210 : (((px_tab 188).drop 210).take 70).all (px_dk 188) = true := by decide +kernel
set_option maxRecDepth 100000 in
theorem px_dl_188_280 : (((px_tab 188).drop 280).take 70).all (px_dk 188) = true := by decide +kernel
set_option maxRecDepth 100000 in
theorem px_dl_188_350 : (((px_tab 188).drop 350).take 70).all (px_dk 188) = true := by decide +kernel
set_option maxRecDepth 100000 in
theorem px_dl_188_420 : (((px_tab 188).drop 420).take 70).all (px_dk 188) = true := by decide +kernel
set_option maxRecDepth 100000 in
theorem px_dl_188_490 : (((px_tab 188).drop 490).take 70).all (px_dk 188) = true := by decide +kernel
set_option maxRecDepth 100000 in
theorem px_dm_188 : (px_tab 188).all (px_dk 188) = true := by
  have e : px_tab 188 = ((px_tab 188).drop 0).take 70 ++ ((px_tab 188).drop 70).take 70 ++ ((px_tab 188).drop 140).take 70 ++ ((px_tab 188).drop 210).take 70 ++ ((px_tab 188).drop 280).take 70 ++ ((px_tab 188).drop 350).take 70 ++ ((px_tab 188).drop 420).take 70 ++ ((px_tab 188).drop 490).take 70 := by rfl
  rw [e]
  simp only [List.all_append, px_dl_188_0, px_dl_188_70, px_dl_188_140, px_dl_188_210, px_dl_188_280, px_dl_188_350, px_dl_188_420, px_dl_188_490, Bool.and_self]
set_option maxRecDepth 100000 in
theorem px_case : ((List.range 189).all fun m => (([0, 1, 2, 3, 4, 5, 6, 7, 8, 9, 10, 11, 12, 13, 14, 15, 16, 17] : List Nat).contains m || (([18, 19, 20, 21, 22, 23, 24, 25, 26, 27, 28, 29] : List Nat).contains m || (([30, 31, 32, 33, 34, 35, 36] : List Nat).contains m || (([37, 38, 39, 40, 41, 42, 43, 44, 45, 46, 47] : List Nat).contains m || (([48, 49, 50, 51, 52, 53, 54, 55] : List Nat).contains m || (([56, 57, 58, 59, 60, 61, 62, 63] : List Nat).contains m || (([64, 65, 66, 67, 68, 69, 70, 71, 72, 73] : List Nat).contains m || (([74, 75, 76, 77, 78, 79, 80, 81, 82, 83] : List Nat).contains m || (([84, 85, 86, 87, 88, 89, 90, 91, 92] : List Nat).contains m || (([93, 95, 96, 97, 98, 99, 100, 101, 102, 103, 104, 105, 106, 107, 108] : List Nat).contains m || (([109, 110, 111, 112, 113, 114, 115, 116, 117] : List Nat).contains m || (([118, 119, 120, 121, 122, 123, 124, 128, 129] : List Nat).contains m || (([130, 131, 132, 133, 134, 135, 136, 137] : List Nat).contains m || (([138, 139, 140, 141, 142, 143, 144, 145] : List Nat).contains m || (([146, 147, 148, 149, 150, 151, 152, 153] : List Nat).contains m || (([154, 155, 156, 157, 158, 159, 160, 161, 162, 163] : List Nat).contains m || (([164, 165, 166, 167, 168] : List Nat).contains m || (([169, 170, 171, 172, 173, 174, 175, 176, 177, 178] : List Nat).contains m || (([179, 180, 181, 182, 183, 184, 185, 187] : List Nat).contains m || (([94] : List Nat).contains m || (([125] : List Nat).contains m || (([126] : List Nat).contains m || (([127] : List Nat).contains m || (([186] : List Nat).contains m || (([188] : List Nat).contains m)))))))))))))))))))))))))) = true := by decide +kernel
theorem px_dall : ∀ m, m < 189 → (px_tab m).all (px_dk m) = true := by
  intro m hm
  have h := List.all_eq_true.mp px_case m (List.mem_range.mpr hm)
  simp only [Bool.or_eq_true] at h
  rcases h with h | h | h | h | h | h | h | h | h | h | h | h | h | h | h | h | h | h | h | h | h | h | h | h | h
  · exact List.all_eq_true.mp px_dk_0 m (List.contains_iff_mem.mp h)
  · exact List.all_eq_true.mp px_dk_1 m (List.contains_iff_mem.mp h)
  · exact List.all_eq_true.mp px_dk_2 m (List.contains_iff_mem.mp h)
  · exact List.all_eq_true.mp px_dk_3 m (List.contains_iff_mem.mp h)
  · exact List.all_eq_true.mp px_dk_4 m (List.contains_iff_mem.mp h)
  · exact List.all_eq_true.mp px_dk_5 m (List.contains_iff_mem.mp h)
  · exact List.all_eq_true.mp px_dk_6 m (List.contains_iff_mem.mp h)
  · exact List.all_eq_true.mp px_dk_7 m (List.contains_iff_mem.mp h)
  · exact List.all_eq_true.mp px_dk_8 m (List.contains_iff_mem.mp h)
  · exact List.all_eq_true.mp px_dk_9 m (List.contains_iff_mem.mp h)
  · exact List.all_eq_true.mp px_dk_10 m (List.contains_iff_mem.mp h)
  · exact List.all_eq_true.mp px_dk_11 m (List.contains_iff_mem.mp h)
  · exact List.all_eq_true.mp px_dk_12 m (List.contains_iff_mem.mp h)
  · exact List.all_eq_true.mp px_dk_13 m (List.contains_iff_mem.mp h)
  · exact List.all_eq_true.mp px_dk_14 m (List.contains_iff_mem.mp h)
  · exact List.all_eq_true.mp px_dk_15 m (List.contains_iff_mem.mp h)
  · exact List.all_eq_true.mp px_dk_16 m (List.contains_iff_mem.mp h)
  · exact List.all_eq_true.mp px_dk_17 m (List.contains_iff_mem.mp h)
  · exact List.all_eq_true.mp px_dk_18 m (List.contains_iff_mem.mp h)
  · rw [List.mem_singleton.mp (List.contains_iff_mem.mp h)]; exact px_dm_94
  · rw [List.mem_singleton.mp (List.contains_iff_mem.mp h)]; exact px_dm_125
  · rw [List.mem_singleton.mp (List.contains_iff_mem.mp h)]; exact px_dm_126
  · rw [List.mem_singleton.mp (List.contains_iff_mem.mp h)]; exact px_dm_127
  · rw [List.mem_singleton.mp (List.contains_iff_mem.mp h)]; exact px_dm_186
  · rw [List.mem_singleton.mp (List.contains_iff_mem.mp h)]; exact px_dm_188
set_option maxRecDepth 100000 in
theorem px_cw_0 : ∀ m, m < 20 → Cond.code (px_y (0 + m)) (px_c (0 + m)) (px_ml (0 + m)) (px_rt (0 + m)) ∈ lw_tbl := by
  intro m hm
  have h : m = 0 ∨ m = 1 ∨ m = 2 ∨ m = 3 ∨ m = 4 ∨ m = 5 ∨ m = 6 ∨ m = 7 ∨ m = 8 ∨ m = 9 ∨ m = 10 ∨ m = 11 ∨ m = 12 ∨ m = 13 ∨ m = 14 ∨ m = 15 ∨ m = 16 ∨ m = 17 ∨ m = 18 ∨ m = 19 := by omega
  rcases h with rfl | rfl | rfl | rfl | rfl | rfl | rfl | rfl | rfl | rfl | rfl | rfl | rfl | rfl | rfl | rfl | rfl | rfl | rfl | rfl
  · exact List.mem_of_getElem? (i := 154) (rfl : lw_tbl[154]? = some (Cond.code yX0_init cX0_init 1 none))
  · exact List.mem_of_getElem? (i := 461) (rfl : lw_tbl[461]? = some (Cond.code yX0_rowPart cX0_rowPart 4 (some .int)))
  · exact List.mem_of_getElem? (i := 411) (rfl : lw_tbl[411]? = some (Cond.code yX0_writeRowPart cX0_writeRowPart 5 none))
  · exact List.mem_of_getElem? (i := 186) (rfl : lw_tbl[186]? = some (Cond.code yX0_padCount cX0_padCount 2 (some .int)))
  · exact List.mem_of_getElem? (i := 444) (rfl : lw_tbl[444]? = some (Cond.code yX0_writePadCount cX0_writePadCount 3 none))
  · exact List.mem_of_getElem? (i := 193) (rfl : lw_tbl[193]? = some (Cond.code yX0_padPart cX0_padPart 4 (some .int)))
  · exact List.mem_of_getElem? (i := 440) (rfl : lw_tbl[440]? = some (Cond.code yX0_writePadPart cX0_writePadPart 5 none))
  · exact List.mem_of_getElem? (i := 558) (rfl : lw_tbl[558]? = some (Cond.code yX0_saveCount cX0_saveCount 2 (some .int)))
  · exact List.mem_of_getElem? (i := 562) (rfl : lw_tbl[562]? = some (Cond.code yX0_saveAddress cX0_saveAddress 3 (some .int)))
  · exact List.mem_of_getElem? (i := 570) (rfl : lw_tbl[570]? = some (Cond.code yX0_saveRegister cX0_saveRegister 3 (some .int)))
  · exact List.mem_of_getElem? (i := 566) (rfl : lw_tbl[566]? = some (Cond.code yX0_saveCell cX0_saveCell 3 (some .int)))
  · exact List.mem_of_getElem? (i := 420) (rfl : lw_tbl[420]? = some (Cond.code yX0_addSave cX0_addSave 6 none))
  · exact List.mem_of_getElem? (i := 726) (rfl : lw_tbl[726]? = some (Cond.code yX0_countPads cX0_countPads 3 (some .int)))
  · exact List.mem_of_getElem? (i := 730) (rfl : lw_tbl[730]? = some (Cond.code yX0_countSavingAddresses cX0_countSavingAddresses 4 (some .int)))
  · exact List.mem_of_getElem? (i := 734) (rfl : lw_tbl[734]? = some (Cond.code yX0_isAnythingSaved cX0_isAnythingSaved 4 (some .boolean)))
  · exact List.mem_of_getElem? (i := 674) (rfl : lw_tbl[674]? = some (Cond.code yX1_init cX1_init 2 none))
  · exact List.mem_of_getElem? (i := 688) (rfl : lw_tbl[688]? = some (Cond.code yX1_draw cX1_draw 2 (some .int)))
  · exact List.mem_of_getElem? (i := 684) (rfl : lw_tbl[684]? = some (Cond.code yX1_doOne cX1_doOne 3 (some .boolean)))
  · exact List.mem_of_getElem? (i := 699) (rfl : lw_tbl[699]? = some (Cond.code yX1_throwDrawn cX1_throwDrawn 4 (some .boolean)))
  · exact List.mem_of_getElem? (i := 113) (rfl : lw_tbl[113]? = some (Cond.code yX2_init cX2_init 1 none))
set_option maxRecDepth 100000 in
theorem px_cw_20 : ∀ m, m < 20 → Cond.code (px_y (20 + m)) (px_c (20 + m)) (px_ml (20 + m)) (px_rt (20 + m)) ∈ lw_tbl := by
  intro m hm
  have h : m = 0 ∨ m = 1 ∨ m = 2 ∨ m = 3 ∨ m = 4 ∨ m = 5 ∨ m = 6 ∨ m = 7 ∨ m = 8 ∨ m = 9 ∨ m = 10 ∨ m = 11 ∨ m = 12 ∨ m = 13 ∨ m = 14 ∨ m = 15 ∨ m = 16 ∨ m = 17 ∨ m = 18 ∨ m = 19 := by omega
  rcases h with rfl | rfl | rfl | rfl | rfl | rfl | rfl | rfl | rfl | rfl | rfl | rfl | rfl | rfl | rfl | rfl | rfl | rfl | rfl | rfl
  · exact List.mem_of_getElem? (i := 448) (rfl : lw_tbl[448]? = some (Cond.code yX2_empty cX2_empty 1 none))
  · exact List.mem_of_getElem? (i := 533) (rfl : lw_tbl[533]? = some (Cond.code yX2_add cX2_add 2 none))
  · exact List.mem_of_getElem? (i := 633) (rfl : lw_tbl[633]? = some (Cond.code yX2_takeLatest cX2_takeLatest 2 (some (.object "RowUnwinder$Machine"))))
  · exact List.mem_of_getElem? (i := 709) (rfl : lw_tbl[709]? = some (Cond.code yX2_become cX2_become 3 none))
  · exact List.mem_of_getElem? (i := 181) (rfl : lw_tbl[181]? = some (Cond.code yX3_init cX3_init 4 none))
  · exact List.mem_of_getElem? (i := 539) (rfl : lw_tbl[539]? = some (Cond.code yX3_init_ cX3_init_ 2 none))
  · exact List.mem_of_getElem? (i := 508) (rfl : lw_tbl[508]? = some (Cond.code yX3_levelOf cX3_levelOf 2 (some .int)))
  · exact List.mem_of_getElem? (i := 578) (rfl : lw_tbl[578]? = some (Cond.code yX3_latestAddress cX3_latestAddress 1 (some .int)))
  · exact List.mem_of_getElem? (i := 550) (rfl : lw_tbl[550]? = some (Cond.code yX3_enter cX3_enter 3 none))
  · exact List.mem_of_getElem? (i := 582) (rfl : lw_tbl[582]? = some (Cond.code yX3_step cX3_step 1 none))
  · exact List.mem_of_getElem? (i := 554) (rfl : lw_tbl[554]? = some (Cond.code yX3_saveAtLatest cX3_saveAtLatest 4 none))
  · exact List.mem_of_getElem? (i := 598) (rfl : lw_tbl[598]? = some (Cond.code yX3_leave cX3_leave 2 none))
  · exact List.mem_of_getElem? (i := 516) (rfl : lw_tbl[516]? = some (Cond.code yX3_behindBack cX3_behindBack 5 (some .int)))
  · exact List.mem_of_getElem? (i := 512) (rfl : lw_tbl[512]? = some (Cond.code yX3_callerOf cX3_callerOf 5 (some .int)))
  · exact List.mem_of_getElem? (i := 606) (rfl : lw_tbl[606]? = some (Cond.code yX3_catcherOf cX3_catcherOf 5 (some .int)))
  · exact List.mem_of_getElem? (i := 611) (rfl : lw_tbl[611]? = some (Cond.code yX3_deedAt cX3_deedAt 6 (some .int)))
  · exact List.mem_of_getElem? (i := 641) (rfl : lw_tbl[641]? = some (Cond.code yX3_countFinishing cX3_countFinishing 6 (some .int)))
  · exact List.mem_of_getElem? (i := 616) (rfl : lw_tbl[616]? = some (Cond.code yX3_unwindTo cX3_unwindTo 5 none))
  · exact List.mem_of_getElem? (i := 620) (rfl : lw_tbl[620]? = some (Cond.code yX3_finishAtLatest cX3_finishAtLatest 5 none))
  · exact List.mem_of_getElem? (i := 96) (rfl : lw_tbl[96]? = some (Cond.code yX4_init cX4_init 1 none))
set_option maxRecDepth 100000 in
theorem px_cw_40 : ∀ m, m < 20 → Cond.code (px_y (40 + m)) (px_c (40 + m)) (px_ml (40 + m)) (px_rt (40 + m)) ∈ lw_tbl := by
  intro m hm
  have h : m = 0 ∨ m = 1 ∨ m = 2 ∨ m = 3 ∨ m = 4 ∨ m = 5 ∨ m = 6 ∨ m = 7 ∨ m = 8 ∨ m = 9 ∨ m = 10 ∨ m = 11 ∨ m = 12 ∨ m = 13 ∨ m = 14 ∨ m = 15 ∨ m = 16 ∨ m = 17 ∨ m = 18 ∨ m = 19 := by omega
  rcases h with rfl | rfl | rfl | rfl | rfl | rfl | rfl | rfl | rfl | rfl | rfl | rfl | rfl | rfl | rfl | rfl | rfl | rfl | rfl | rfl
  · exact List.mem_of_getElem? (i := 265) (rfl : lw_tbl[265]? = some (Cond.code yX4_write cX4_write 2 none))
  · exact List.mem_of_getElem? (i := 309) (rfl : lw_tbl[309]? = some (Cond.code yX4_codeAt cX4_codeAt 2 (some .int)))
  · exact List.mem_of_getElem? (i := 402) (rfl : lw_tbl[402]? = some (Cond.code yX4_digitAt cX4_digitAt 2 (some .int)))
  · exact List.mem_of_getElem? (i := 278) (rfl : lw_tbl[278]? = some (Cond.code yX5_init cX5_init 1 none))
  · exact List.mem_of_getElem? (i := 305) (rfl : lw_tbl[305]? = some (Cond.code yX5_firstFault cX5_firstFault 3 (some .int)))
  · exact List.mem_of_getElem? (i := 351) (rfl : lw_tbl[351]? = some (Cond.code yX5_mayEnd cX5_mayEnd 1 (some .boolean)))
  · exact List.mem_of_getElem? (i := 316) (rfl : lw_tbl[316]? = some (Cond.code yX5_takes cX5_takes 2 (some .boolean)))
  · exact List.mem_of_getElem? (i := 320) (rfl : lw_tbl[320]? = some (Cond.code yX5_takesOp cX5_takesOp 2 (some .boolean)))
  · exact List.mem_of_getElem? (i := 324) (rfl : lw_tbl[324]? = some (Cond.code yX5_takesOpLetter cX5_takesOpLetter 2 (some .boolean)))
  · exact List.mem_of_getElem? (i := 328) (rfl : lw_tbl[328]? = some (Cond.code yX5_takesFarther cX5_takesFarther 2 (some .boolean)))
  · exact List.mem_of_getElem? (i := 332) (rfl : lw_tbl[332]? = some (Cond.code yX5_takesDigit cX5_takesDigit 6 (some .boolean)))
  · exact List.mem_of_getElem? (i := 336) (rfl : lw_tbl[336]? = some (Cond.code yX5_takesBetweenPads cX5_takesBetweenPads 2 (some .boolean)))
  · exact List.mem_of_getElem? (i := 340) (rfl : lw_tbl[340]? = some (Cond.code yX5_beginFunction cX5_beginFunction 1 none))
  · exact List.mem_of_getElem? (i := 356) (rfl : lw_tbl[356]? = some (Cond.code yX6_init cX6_init 3 none))
  · exact List.mem_of_getElem? (i := 386) (rfl : lw_tbl[386]? = some (Cond.code yX6_writeText cX6_writeText 2 none))
  · exact List.mem_of_getElem? (i := 390) (rfl : lw_tbl[390]? = some (Cond.code yX6_writeProgram cX6_writeProgram 3 none))
  · exact List.mem_of_getElem? (i := 398) (rfl : lw_tbl[398]? = some (Cond.code yX6_writeOp cX6_writeOp 4 none))
  · exact List.mem_of_getElem? (i := 415) (rfl : lw_tbl[415]? = some (Cond.code yX6_save cX6_save 4 none))
  · exact List.mem_of_getElem? (i := 424) (rfl : lw_tbl[424]? = some (Cond.code yX6_free cX6_free 2 none))
  · exact List.mem_of_getElem? (i := 428) (rfl : lw_tbl[428]? = some (Cond.code yX6_rememberOrGoBack cX6_rememberOrGoBack 2 none))
set_option maxRecDepth 100000 in
theorem px_cw_60 : ∀ m, m < 20 → Cond.code (px_y (60 + m)) (px_c (60 + m)) (px_ml (60 + m)) (px_rt (60 + m)) ∈ lw_tbl := by
  intro m hm
  have h : m = 0 ∨ m = 1 ∨ m = 2 ∨ m = 3 ∨ m = 4 ∨ m = 5 ∨ m = 6 ∨ m = 7 ∨ m = 8 ∨ m = 9 ∨ m = 10 ∨ m = 11 ∨ m = 12 ∨ m = 13 ∨ m = 14 ∨ m = 15 ∨ m = 16 ∨ m = 17 ∨ m = 18 ∨ m = 19 := by omega
  rcases h with rfl | rfl | rfl | rfl | rfl | rfl | rfl | rfl | rfl | rfl | rfl | rfl | rfl | rfl | rfl | rfl | rfl | rfl | rfl | rfl
  · exact List.mem_of_getElem? (i := 407) (rfl : lw_tbl[407]? = some (Cond.code yX6_writeRowsTo cX6_writeRowsTo 5 none))
  · exact List.mem_of_getElem? (i := 435) (rfl : lw_tbl[435]? = some (Cond.code yX6_writePads cX6_writePads 4 none))
  · exact List.mem_of_getElem? (i := 132) (rfl : lw_tbl[132]? = some (Cond.code yX7_init cX7_init 1 none))
  · exact List.mem_of_getElem? (i := 661) (rfl : lw_tbl[661]? = some (Cond.code yX7_note cX7_note 4 none))
  · exact List.mem_of_getElem? (i := 476) (rfl : lw_tbl[476]? = some (Cond.code yX7_sortsOf cX7_sortsOf 5 (some .int)))
  · exact List.mem_of_getElem? (i := 480) (rfl : lw_tbl[480]? = some (Cond.code yX7_canBe cX7_canBe 5 (some .boolean)))
  · exact List.mem_of_getElem? (i := 713) (rfl : lw_tbl[713]? = some (Cond.code yX7_become cX7_become 2 none))
  · exact List.mem_of_getElem? (i := 88) (rfl : lw_tbl[88]? = some (Cond.code yX8_init cX8_init 1 none))
  · exact List.mem_of_getElem? (i := 261) (rfl : lw_tbl[261]? = some (Cond.code yX8_letter cX8_letter 2 (some .int)))
  · exact List.mem_of_getElem? (i := 269) (rfl : lw_tbl[269]? = some (Cond.code yX8_blank cX8_blank 2 (some .int)))
  · exact List.mem_of_getElem? (i := 273) (rfl : lw_tbl[273]? = some (Cond.code yX8_fault cX8_fault 1 (some .int)))
  · exact List.mem_of_getElem? (i := 347) (rfl : lw_tbl[347]? = some (Cond.code yX8_text cX8_text 3 (some .int)))
  · exact List.mem_of_getElem? (i := 452) (rfl : lw_tbl[452]? = some (Cond.code yX8_row cX8_row 4 (some .int)))
  · exact List.mem_of_getElem? (i := 465) (rfl : lw_tbl[465]? = some (Cond.code yX8_pad cX8_pad 6 (some .int)))
  · exact List.mem_of_getElem? (i := 497) (rfl : lw_tbl[497]? = some (Cond.code yX8_as cX8_as 4 (some .int)))
  · exact List.mem_of_getElem? (i := 504) (rfl : lw_tbl[504]? = some (Cond.code yX8_frame cX8_frame 4 (some .int)))
  · exact List.mem_of_getElem? (i := 521) (rfl : lw_tbl[521]? = some (Cond.code yX8_register cX8_register 2 (some .int)))
  · exact List.mem_of_getElem? (i := 525) (rfl : lw_tbl[525]? = some (Cond.code yX8_call cX8_call 2 (some .int)))
  · exact List.mem_of_getElem? (i := 574) (rfl : lw_tbl[574]? = some (Cond.code yX8_go cX8_go 3 (some .int)))
  · exact List.mem_of_getElem? (i := 586) (rfl : lw_tbl[586]? = some (Cond.code yX8_set cX8_set 4 (some .int)))
set_option maxRecDepth 100000 in
theorem px_cw_80 : ∀ m, m < 20 → Cond.code (px_y (80 + m)) (px_c (80 + m)) (px_ml (80 + m)) (px_rt (80 + m)) ∈ lw_tbl := by
  intro m hm
  have h : m = 0 ∨ m = 1 ∨ m = 2 ∨ m = 3 ∨ m = 4 ∨ m = 5 ∨ m = 6 ∨ m = 7 ∨ m = 8 ∨ m = 9 ∨ m = 10 ∨ m = 11 ∨ m = 12 ∨ m = 13 ∨ m = 14 ∨ m = 15 ∨ m = 16 ∨ m = 17 ∨ m = 18 ∨ m = 19 := by omega
  rcases h with rfl | rfl | rfl | rfl | rfl | rfl | rfl | rfl | rfl | rfl | rfl | rfl | rfl | rfl | rfl | rfl | rfl | rfl | rfl | rfl
  · exact List.mem_of_getElem? (i := 594) (rfl : lw_tbl[594]? = some (Cond.code yX8_back cX8_back 1 (some .int)))
  · exact List.mem_of_getElem? (i := 602) (rfl : lw_tbl[602]? = some (Cond.code yX8_raise cX8_raise 3 (some .int)))
  · exact List.mem_of_getElem? (i := 625) (rfl : lw_tbl[625]? = some (Cond.code yX8_change cX8_change 5 (some .int)))
  · exact List.mem_of_getElem? (i := 629) (rfl : lw_tbl[629]? = some (Cond.code yX8_undo cX8_undo 1 (some .int)))
  · exact List.mem_of_getElem? (i := 637) (rfl : lw_tbl[637]? = some (Cond.code yX8_search cX8_search 4 (some .int)))
  · exact List.mem_of_getElem? (i := 645) (rfl : lw_tbl[645]? = some (Cond.code yX8_loose cX8_loose 3 (some .int)))
  · exact List.mem_of_getElem? (i := 649) (rfl : lw_tbl[649]? = some (Cond.code yX8_finished cX8_finished 2 (some .int)))
  · exact List.mem_of_getElem? (i := 653) (rfl : lw_tbl[653]? = some (Cond.code yX8_same cX8_same 5 (some .int)))
  · exact List.mem_of_getElem? (i := 657) (rfl : lw_tbl[657]? = some (Cond.code yX8_see cX8_see 5 (some .int)))
  · exact List.mem_of_getElem? (i := 665) (rfl : lw_tbl[665]? = some (Cond.code yX8_forget cX8_forget 2 (some .int)))
  · exact List.mem_of_getElem? (i := 669) (rfl : lw_tbl[669]? = some (Cond.code yX8_drawn cX8_drawn 8 (some .int)))
  · exact List.mem_of_getElem? (i := 705) (rfl : lw_tbl[705]? = some (Cond.code yX8_image cX8_image 1 (some .int)))
  · exact List.mem_of_getElem? (i := 718) (rfl : lw_tbl[718]? = some (Cond.code yX8_restore cX8_restore 1 (some .int)))
  · exact List.mem_of_getElem? (i := 722) (rfl : lw_tbl[722]? = some (Cond.code yX8_count cX8_count 2 (some .int)))
  · exact List.mem_of_getElem? (i := 739) (rfl : lw_tbl[739]? = some (Cond.code yX8_digest cX8_digest 5 (some .long)))
  · exact List.mem_of_getElem? (i := 744) (rfl : lw_tbl[744]? = some (Cond.code yX8_digestFunction cX8_digestFunction 8 (some .long)))
  · exact List.mem_of_getElem? (i := 756) (rfl : lw_tbl[756]? = some (Cond.code yX8_digestThrowing cX8_digestThrowing 7 (some .long)))
  · exact List.mem_of_getElem? (i := 748) (rfl : lw_tbl[748]? = some (Cond.code yX8_folded cX8_folded 4 (some .long)))
  · exact List.mem_of_getElem? (i := 590) (rfl : lw_tbl[590]? = some (Cond.code yX8_hasText cX8_hasText 1 (some .boolean)))
  · exact List.mem_of_getElem? (i := 456) (rfl : lw_tbl[456]? = some (Cond.code yX8_isFunction cX8_isFunction 2 (some .boolean)))
set_option maxRecDepth 100000 in
theorem px_cw_100 : ∀ m, m < 20 → Cond.code (px_y (100 + m)) (px_c (100 + m)) (px_ml (100 + m)) (px_rt (100 + m)) ∈ lw_tbl := by
  intro m hm
  have h : m = 0 ∨ m = 1 ∨ m = 2 ∨ m = 3 ∨ m = 4 ∨ m = 5 ∨ m = 6 ∨ m = 7 ∨ m = 8 ∨ m = 9 ∨ m = 10 ∨ m = 11 ∨ m = 12 ∨ m = 13 ∨ m = 14 ∨ m = 15 ∨ m = 16 ∨ m = 17 ∨ m = 18 ∨ m = 19 := by omega
  rcases h with rfl | rfl | rfl | rfl | rfl | rfl | rfl | rfl | rfl | rfl | rfl | rfl | rfl | rfl | rfl | rfl | rfl | rfl | rfl | rfl
  · exact List.mem_of_getElem? (i := 469) (rfl : lw_tbl[469]? = some (Cond.code yX8_isPad cX8_isPad 3 (some .boolean)))
  · exact List.mem_of_getElem? (i := 529) (rfl : lw_tbl[529]? = some (Cond.code yX8_beginDoing cX8_beginDoing 1 none))
  · exact List.mem_of_getElem? (i := 312) (rfl : lw_tbl[312]? = some (Cond.code yX8_isBelow cX8_isBelow 2 (some .boolean)))
  · exact List.mem_of_getElem? (i := 189) (rfl : lw_tbl[189]? = some (Cond.code yX8_slot cX8_slot 2 (some .int)))
  · exact List.mem_of_getElem? (i := 343) (rfl : lw_tbl[343]? = some (Cond.code yX8_kindOfLetter cX8_kindOfLetter 1 (some .int)))
  · exact List.mem_of_getElem? (i := 500) (rfl : lw_tbl[500]? = some (Cond.code yX8_isOfKind cX8_isOfKind 2 (some .boolean)))
  · exact List.mem_of_getElem? (i := 483) (rfl : lw_tbl[483]? = some (Cond.code yX8_deedOf cX8_deedOf 3 (some .int)))
  · exact List.mem_of_getElem? (i := 486) (rfl : lw_tbl[486]? = some (Cond.code yX8_bestToThrow cX8_bestToThrow 6 (some .int)))
  · exact List.mem_of_getElem? (i := 489) (rfl : lw_tbl[489]? = some (Cond.code yX8_leftAtWorst cX8_leftAtWorst 7 (some .int)))
  · exact List.mem_of_getElem? (i := 766) (rfl : lw_tbl[766]? = some (Cond.code yX9_init cX9_init 1 none))
  · exact List.mem_of_getElem? (i := 902) (rfl : lw_tbl[902]? = some (Cond.code yX9_in cX9_in 6 (some .boolean)))
  · exact List.mem_of_getElem? (i := 898) (rfl : lw_tbl[898]? = some (Cond.code yX9_letter cX9_letter 2 (some .int)))
  · exact List.mem_of_getElem? (i := 906) (rfl : lw_tbl[906]? = some (Cond.code yX9_blank cX9_blank 2 (some .int)))
  · exact List.mem_of_getElem? (i := 929) (rfl : lw_tbl[929]? = some (Cond.code yX9_kindBy cX9_kindBy 1 (some .int)))
  · exact List.mem_of_getElem? (i := 918) (rfl : lw_tbl[918]? = some (Cond.code yX9_beginFunction cX9_beginFunction 1 none))
  · exact List.mem_of_getElem? (i := 947) (rfl : lw_tbl[947]? = some (Cond.code yX9_digitsOf cX9_digitsOf 1 (some .int)))
  · exact List.mem_of_getElem? (i := 944) (rfl : lw_tbl[944]? = some (Cond.code yX9_endOp cX9_endOp 1 none))
  · exact List.mem_of_getElem? (i := 940) (rfl : lw_tbl[940]? = some (Cond.code yX9_isOpBegun cX9_isOpBegun 3 (some .boolean)))
  · exact List.mem_of_getElem? (i := 951) (rfl : lw_tbl[951]? = some (Cond.code yX9_isOpDigit cX9_isOpDigit 3 (some .boolean)))
  · exact List.mem_of_getElem? (i := 926) (rfl : lw_tbl[926]? = some (Cond.code yX9_isPadBegun cX9_isPadBegun 2 (some .boolean)))
set_option maxRecDepth 100000 in
theorem px_cw_120 : ∀ m, m < 20 → Cond.code (px_y (120 + m)) (px_c (120 + m)) (px_ml (120 + m)) (px_rt (120 + m)) ∈ lw_tbl := by
  intro m hm
  have h : m = 0 ∨ m = 1 ∨ m = 2 ∨ m = 3 ∨ m = 4 ∨ m = 5 ∨ m = 6 ∨ m = 7 ∨ m = 8 ∨ m = 9 ∨ m = 10 ∨ m = 11 ∨ m = 12 ∨ m = 13 ∨ m = 14 ∨ m = 15 ∨ m = 16 ∨ m = 17 ∨ m = 18 ∨ m = 19 := by omega
  rcases h with rfl | rfl | rfl | rfl | rfl | rfl | rfl | rfl | rfl | rfl | rfl | rfl | rfl | rfl | rfl | rfl | rfl | rfl | rfl | rfl
  · exact List.mem_of_getElem? (i := 933) (rfl : lw_tbl[933]? = some (Cond.code yX9_isPadDigit cX9_isPadDigit 4 (some .boolean)))
  · exact List.mem_of_getElem? (i := 922) (rfl : lw_tbl[922]? = some (Cond.code yX9_isGood cX9_isGood 3 (some .boolean)))
  · exact List.mem_of_getElem? (i := 914) (rfl : lw_tbl[914]? = some (Cond.code yX9_faultOf cX9_faultOf 2 (some .int)))
  · exact List.mem_of_getElem? (i := 910) (rfl : lw_tbl[910]? = some (Cond.code yX9_fault cX9_fault 1 (some .int)))
  · exact List.mem_of_getElem? (i := 961) (rfl : lw_tbl[961]? = some (Cond.code yX9_copy cX9_copy 3 none))
  · exact List.mem_of_getElem? (i := 969) (rfl : lw_tbl[969]? = some (Cond.code yX9_doOp cX9_doOp 6 none))
  · exact List.mem_of_getElem? (i := 965) (rfl : lw_tbl[965]? = some (Cond.code yX9_layFunction cX9_layFunction 7 none))
  · exact List.mem_of_getElem? (i := 958) (rfl : lw_tbl[958]? = some (Cond.code yX9_text cX9_text 3 (some .int)))
  · exact List.mem_of_getElem? (i := 1020) (rfl : lw_tbl[1020]? = some (Cond.code yX9_lacks cX9_lacks 1 (some .boolean)))
  · exact List.mem_of_getElem? (i := 981) (rfl : lw_tbl[981]? = some (Cond.code yX9_isFunction cX9_isFunction 2 (some .boolean)))
  · exact List.mem_of_getElem? (i := 1084) (rfl : lw_tbl[1084]? = some (Cond.code yX9_isPad cX9_isPad 3 (some .boolean)))
  · exact List.mem_of_getElem? (i := 989) (rfl : lw_tbl[989]? = some (Cond.code yX9_keep cX9_keep 2 none))
  · exact List.mem_of_getElem? (i := 973) (rfl : lw_tbl[973]? = some (Cond.code yX9_undo cX9_undo 2 (some .int)))
  · exact List.mem_of_getElem? (i := 985) (rfl : lw_tbl[985]? = some (Cond.code yX9_frames cX9_frames 1 (some .int)))
  · exact List.mem_of_getElem? (i := 997) (rfl : lw_tbl[997]? = some (Cond.code yX9_frameAt cX9_frameAt 2 (some .int)))
  · exact List.mem_of_getElem? (i := 1001) (rfl : lw_tbl[1001]? = some (Cond.code yX9_saveAt cX9_saveAt 6 none))
  · exact List.mem_of_getElem? (i := 993) (rfl : lw_tbl[993]? = some (Cond.code yX9_doCall cX9_doCall 4 none))
  · exact List.mem_of_getElem? (i := 1010) (rfl : lw_tbl[1010]? = some (Cond.code yX9_doGo cX9_doGo 4 none))
  · exact List.mem_of_getElem? (i := 1028) (rfl : lw_tbl[1028]? = some (Cond.code yX9_doBack cX9_doBack 4 none))
  · exact List.mem_of_getElem? (i := 977) (rfl : lw_tbl[977]? = some (Cond.code yX9_call cX9_call 2 (some .int)))
set_option maxRecDepth 100000 in
theorem px_cw_140 : ∀ m, m < 20 → Cond.code (px_y (140 + m)) (px_c (140 + m)) (px_ml (140 + m)) (px_rt (140 + m)) ∈ lw_tbl := by
  intro m hm
  have h : m = 0 ∨ m = 1 ∨ m = 2 ∨ m = 3 ∨ m = 4 ∨ m = 5 ∨ m = 6 ∨ m = 7 ∨ m = 8 ∨ m = 9 ∨ m = 10 ∨ m = 11 ∨ m = 12 ∨ m = 13 ∨ m = 14 ∨ m = 15 ∨ m = 16 ∨ m = 17 ∨ m = 18 ∨ m = 19 := by omega
  rcases h with rfl | rfl | rfl | rfl | rfl | rfl | rfl | rfl | rfl | rfl | rfl | rfl | rfl | rfl | rfl | rfl | rfl | rfl | rfl | rfl
  · exact List.mem_of_getElem? (i := 1005) (rfl : lw_tbl[1005]? = some (Cond.code yX9_go cX9_go 2 (some .int)))
  · exact List.mem_of_getElem? (i := 1014) (rfl : lw_tbl[1014]? = some (Cond.code yX9_set cX9_set 4 (some .int)))
  · exact List.mem_of_getElem? (i := 1024) (rfl : lw_tbl[1024]? = some (Cond.code yX9_back cX9_back 1 (some .int)))
  · exact List.mem_of_getElem? (i := 1052) (rfl : lw_tbl[1052]? = some (Cond.code yX9_isCatching cX9_isCatching 3 (some .boolean)))
  · exact List.mem_of_getElem? (i := 1049) (rfl : lw_tbl[1049]? = some (Cond.code yX9_does cX9_does 3 (some .int)))
  · exact List.mem_of_getElem? (i := 1046) (rfl : lw_tbl[1046]? = some (Cond.code yX9_doesAt cX9_doesAt 6 (some .int)))
  · exact List.mem_of_getElem? (i := 1042) (rfl : lw_tbl[1042]? = some (Cond.code yX9_layCatcher cX9_layCatcher 6 none))
  · exact List.mem_of_getElem? (i := 1038) (rfl : lw_tbl[1038]? = some (Cond.code yX9_searchOf cX9_searchOf 3 (some .int)))
  · exact List.mem_of_getElem? (i := 1032) (rfl : lw_tbl[1032]? = some (Cond.code yX9_search cX9_search 3 (some .int)))
  · exact List.mem_of_getElem? (i := 1064) (rfl : lw_tbl[1064]? = some (Cond.code yX9_finish cX9_finish 5 none))
  · exact List.mem_of_getElem? (i := 1060) (rfl : lw_tbl[1060]? = some (Cond.code yX9_doRaise cX9_doRaise 4 none))
  · exact List.mem_of_getElem? (i := 1056) (rfl : lw_tbl[1056]? = some (Cond.code yX9_raise cX9_raise 2 (some .int)))
  · exact List.mem_of_getElem? (i := 1072) (rfl : lw_tbl[1072]? = some (Cond.code yX9_looseOf cX9_looseOf 3 (some .int)))
  · exact List.mem_of_getElem? (i := 1068) (rfl : lw_tbl[1068]? = some (Cond.code yX9_loose cX9_loose 1 (some .int)))
  · exact List.mem_of_getElem? (i := 1076) (rfl : lw_tbl[1076]? = some (Cond.code yX9_finished cX9_finished 2 (some .int)))
  · exact List.mem_of_getElem? (i := 1080) (rfl : lw_tbl[1080]? = some (Cond.code yX9_change cX9_change 5 (some .int)))
  · exact List.mem_of_getElem? (i := 1093) (rfl : lw_tbl[1093]? = some (Cond.code yX9_tellRow cX9_tellRow 4 (some .int)))
  · exact List.mem_of_getElem? (i := 1088) (rfl : lw_tbl[1088]? = some (Cond.code yX9_row cX9_row 4 (some .int)))
  · exact List.mem_of_getElem? (i := 1101) (rfl : lw_tbl[1101]? = some (Cond.code yX9_tellPad cX9_tellPad 4 (some .int)))
  · exact List.mem_of_getElem? (i := 1097) (rfl : lw_tbl[1097]? = some (Cond.code yX9_pad cX9_pad 4 (some .int)))
set_option maxRecDepth 100000 in
theorem px_cw_160 : ∀ m, m < 20 → Cond.code (px_y (160 + m)) (px_c (160 + m)) (px_ml (160 + m)) (px_rt (160 + m)) ∈ lw_tbl := by
  intro m hm
  have h : m = 0 ∨ m = 1 ∨ m = 2 ∨ m = 3 ∨ m = 4 ∨ m = 5 ∨ m = 6 ∨ m = 7 ∨ m = 8 ∨ m = 9 ∨ m = 10 ∨ m = 11 ∨ m = 12 ∨ m = 13 ∨ m = 14 ∨ m = 15 ∨ m = 16 ∨ m = 17 ∨ m = 18 ∨ m = 19 := by omega
  rcases h with rfl | rfl | rfl | rfl | rfl | rfl | rfl | rfl | rfl | rfl | rfl | rfl | rfl | rfl | rfl | rfl | rfl | rfl | rfl | rfl
  · exact List.mem_of_getElem? (i := 1113) (rfl : lw_tbl[1113]? = some (Cond.code yX9_as cX9_as 5 (some .int)))
  · exact List.mem_of_getElem? (i := 1126) (rfl : lw_tbl[1126]? = some (Cond.code yX9_callerOf cX9_callerOf 7 (some .int)))
  · exact List.mem_of_getElem? (i := 1122) (rfl : lw_tbl[1122]? = some (Cond.code yX9_tellFrame cX9_tellFrame 3 (some .int)))
  · exact List.mem_of_getElem? (i := 1117) (rfl : lw_tbl[1117]? = some (Cond.code yX9_frame cX9_frame 3 (some .int)))
  · exact List.mem_of_getElem? (i := 1130) (rfl : lw_tbl[1130]? = some (Cond.code yX9_register cX9_register 2 (some .int)))
  · exact List.mem_of_getElem? (i := 1134) (rfl : lw_tbl[1134]? = some (Cond.code yX9_same cX9_same 5 (some .int)))
  · exact List.mem_of_getElem? (i := 1138) (rfl : lw_tbl[1138]? = some (Cond.code yX9_see cX9_see 5 (some .int)))
  · exact List.mem_of_getElem? (i := 1142) (rfl : lw_tbl[1142]? = some (Cond.code yX9_forget cX9_forget 2 (some .int)))
  · exact List.mem_of_getElem? (i := 1105) (rfl : lw_tbl[1105]? = some (Cond.code yX9_sortsOf cX9_sortsOf 9 (some .int)))
  · exact List.mem_of_getElem? (i := 1109) (rfl : lw_tbl[1109]? = some (Cond.code yX9_askOf cX9_askOf 12 (some .int)))
  · exact List.mem_of_getElem? (i := 1155) (rfl : lw_tbl[1155]? = some (Cond.code yX9_draw cX9_draw 2 (some .int)))
  · exact List.mem_of_getElem? (i := 1163) (rfl : lw_tbl[1163]? = some (Cond.code yX9_drawCall cX9_drawCall 2 none))
  · exact List.mem_of_getElem? (i := 1167) (rfl : lw_tbl[1167]? = some (Cond.code yX9_drawGo cX9_drawGo 1 none))
  · exact List.mem_of_getElem? (i := 1171) (rfl : lw_tbl[1171]? = some (Cond.code yX9_drawSet cX9_drawSet 2 none))
  · exact List.mem_of_getElem? (i := 1175) (rfl : lw_tbl[1175]? = some (Cond.code yX9_drawRaise cX9_drawRaise 2 (some .int)))
  · exact List.mem_of_getElem? (i := 1151) (rfl : lw_tbl[1151]? = some (Cond.code yX9_drawOne cX9_drawOne 1 (some .int)))
  · exact List.mem_of_getElem? (i := 1146) (rfl : lw_tbl[1146]? = some (Cond.code yX9_drawn cX9_drawn 6 (some .int)))
  · exact List.mem_of_getElem? (i := 1179) (rfl : lw_tbl[1179]? = some (Cond.code yX9_image cX9_image 1 (some .int)))
  · exact List.mem_of_getElem? (i := 1183) (rfl : lw_tbl[1183]? = some (Cond.code yX9_restore cX9_restore 1 (some .int)))
  · exact List.mem_of_getElem? (i := 1195) (rfl : lw_tbl[1195]? = some (Cond.code yX9_padsAll cX9_padsAll 3 (some .int)))
set_option maxRecDepth 100000 in
theorem px_cw_180 : ∀ m, m < 8 → Cond.code (px_y (180 + m)) (px_c (180 + m)) (px_ml (180 + m)) (px_rt (180 + m)) ∈ lw_tbl := by
  intro m hm
  have h : m = 0 ∨ m = 1 ∨ m = 2 ∨ m = 3 ∨ m = 4 ∨ m = 5 ∨ m = 6 ∨ m = 7 := by omega
  rcases h with rfl | rfl | rfl | rfl | rfl | rfl | rfl | rfl
  · exact List.mem_of_getElem? (i := 1199) (rfl : lw_tbl[1199]? = some (Cond.code yX9_savedMany cX9_savedMany 5 (some .int)))
  · exact List.mem_of_getElem? (i := 1191) (rfl : lw_tbl[1191]? = some (Cond.code yX9_countOf cX9_countOf 2 (some .int)))
  · exact List.mem_of_getElem? (i := 1187) (rfl : lw_tbl[1187]? = some (Cond.code yX9_count cX9_count 2 (some .int)))
  · exact List.mem_of_getElem? (i := 1212) (rfl : lw_tbl[1212]? = some (Cond.code yX9_say cX9_say 3 none))
  · exact List.mem_of_getElem? (i := 1208) (rfl : lw_tbl[1208]? = some (Cond.code yX9_sayFunction cX9_sayFunction 4 none))
  · exact List.mem_of_getElem? (i := 1217) (rfl : lw_tbl[1217]? = some (Cond.code yX9_sayText cX9_sayText 2 none))
  · exact List.mem_of_getElem? (i := 1203) (rfl : lw_tbl[1203]? = some (Cond.code yX9_digest cX9_digest 3 (some .long)))
  · exact List.mem_of_getElem? (i := 393) (rfl : lw_tbl[393]? = some (Cond.code yJ7_fill_53178 cJ7_fill_53178 4 none))
theorem px_cwl : ∀ m, m < 188 → Cond.code (px_y m) (px_c m) (px_ml m) (px_rt m) ∈ lw_tbl := by
  intro m hm
  by_cases h0 : m < 20
  · have h := px_cw_0 (m - 0) (by omega)
    rw [show 0 + (m - 0) = m by omega] at h
    exact h
  by_cases h20 : m < 40
  · have h := px_cw_20 (m - 20) (by omega)
    rw [show 20 + (m - 20) = m by omega] at h
    exact h
  by_cases h40 : m < 60
  · have h := px_cw_40 (m - 40) (by omega)
    rw [show 40 + (m - 40) = m by omega] at h
    exact h
  by_cases h60 : m < 80
  · have h := px_cw_60 (m - 60) (by omega)
    rw [show 60 + (m - 60) = m by omega] at h
    exact h
  by_cases h80 : m < 100
  · have h := px_cw_80 (m - 80) (by omega)
    rw [show 80 + (m - 80) = m by omega] at h
    exact h
  by_cases h100 : m < 120
  · have h := px_cw_100 (m - 100) (by omega)
    rw [show 100 + (m - 100) = m by omega] at h
    exact h
  by_cases h120 : m < 140
  · have h := px_cw_120 (m - 120) (by omega)
    rw [show 120 + (m - 120) = m by omega] at h
    exact h
  by_cases h140 : m < 160
  · have h := px_cw_140 (m - 140) (by omega)
    rw [show 140 + (m - 140) = m by omega] at h
    exact h
  by_cases h160 : m < 180
  · have h := px_cw_160 (m - 160) (by omega)
    rw [show 160 + (m - 160) = m by omega] at h
    exact h
  by_cases h180 : m < 188
  · have h := px_cw_180 (m - 180) (by omega)
    rw [show 180 + (m - 180) = m by omega] at h
    exact h
  exact absurd hm (by omega)
