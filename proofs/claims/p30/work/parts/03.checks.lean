/-! ## what the tables say is so: decided by the kernel -/
def px_dk (m : Nat) (q : Nat × px_K) : Bool := match decode (px_c m) q.1 with
  | .ok p => decide (p.1 = q.2.1) && (p.2 == q.2.2.1)
  | _ => false
def px_jk (m i : Nat) (k : px_K) : Bool := (px_jl.any fun q => q.1 == px_o m && q.2.1 == i && q.2.2.1 == k.2.2.1 && q.2.2.2.1 == k.2.2.2.2.toNat) && Nat.blt k.2.2.1 116 && k.2.2.2.1 == px_np k.2.2.1 && Nat.ble (px_fr k.2.2.1 + 1) (px_fr m) && Nat.ble (19 + px_ml k.2.2.1 + px_lo k.2.2.1) (px_lo m)
def px_xk (m i a : Nat) : Bool := (px_xl.any fun q => q.1 == px_o m && q.2.1 == i && q.2.2.1 == a) && Nat.ble 1 (px_fr m) && Nat.ble 30 (px_lo m)
def px_fk (m i a b : Nat) : Bool := (px_fl.any fun q => q.1 == px_o m && q.2.1 == i && q.2.2.1 == a && q.2.2.2.1 == b) && Nat.blt a 10 && Nat.blt b (px_N a)
def px_nk (m i a : Nat) : Bool := (px_nl.any fun q => q.1 == px_o m && q.2.1 == i && q.2.2.1 == a) && Nat.blt a 10
def px_lk (m : Nat) (k : px_K) : Bool := match k.1 with
  | .getfield i => px_fk m i k.2.2.1 k.2.2.2.1
  | .putfield i => px_fk m i k.2.2.1 k.2.2.2.1 && (!(px_T k.2.2.1 k.2.2.2.1).2.2.2 || (decide ((px_y m).name = "<init>") && decide ((px_T k.2.2.1 k.2.2.2.1).1 = px_R (px_o m))))
  | .new i => px_nk m i k.2.2.1 && k.2.2.2.1 == px_N k.2.2.1
  | .anewarray i => px_nk m i 3
  | .checkcast i => px_il.any fun q => q.1 == px_o m && q.2.1 == i
  | .ldc i => px_kl.any fun q => q.1 == px_o m && q.2.1 == i && decide (q.2.2.1 = k.2.2.2.2) && q.2.2.2.1 == 0
  | .ldc_w i => px_kl.any fun q => q.1 == px_o m && q.2.1 == i && decide (q.2.2.1 = k.2.2.2.2) && q.2.2.2.1 == 0
  | .ldc2_w i => px_kl.any fun q => q.1 == px_o m && q.2.1 == i && decide (q.2.2.1 = k.2.2.2.2) && q.2.2.2.1 == 1
  | .invokespecial i => if k.2.2.1 = 1000 then px_xk m i 1000 else px_jk m i k && (px_ms k.2.2.1).2.1 == 0 && decide ((px_y k.2.2.1).name = "<init>") && decide (px_rt k.2.2.1 = none)
  | .invokevirtual i => if k.2.2.1 = 1002 then px_xk m i 1002 else px_jk m i k && (px_ms k.2.2.1).2.1 == 0 && !((px_ms k.2.2.1).2.2.2.1 == 9999) && Nat.blt (px_o k.2.2.1) 10
  | .invokestatic i => if k.2.2.1 = 1001 then px_xk m i 1001 else if k.2.2.1 = 1003 then px_xk m i 1003 else if k.2.2.1 = 1004 then px_xk m i 1004 else px_jk m i k && (px_ms k.2.2.1).2.1 == 1
  | _ => true
def px_mk (m : Nat) : Bool :=
  decide (lw_tbl[(px_ms m).2.2.2.2]? = some (.initialized (px_y m).cls)) &&
  (if (px_ms m).2.1 = 1 then decide (lw_tbl[(px_ms m).2.2.1]? = some (.static (px_y m))) else decide (lw_tbl[(px_ms m).2.2.1]? = some (.instanceMethod (px_y m)))) &&
  ((px_ms m).2.2.2.1 == 9999 || decide (lw_tbl[(px_ms m).2.2.2.1]? = some (.selects (px_y m).cls (px_y m) (px_y m)))) &&
  decide ((parseMethodDescriptor (px_y m).desc).map (fun d => d.parameters.length) = some (px_np m)) &&
  decide ((px_y m).cls ≠ "java/lang/invoke/MethodHandle") && decide ((px_y m).cls ≠ "java/lang/invoke/VarHandle") && plainName (px_y m).cls && decide ((px_y m).cls = px_R (px_o m))
def px_gt : List Cond := lw_tbl.filter goodWord
theorem px_in {w : Cond} (h : w ∈ lw_tbl) (g : goodWord w = true) : w ∈ px_gt := List.mem_filter.mpr ⟨h, g⟩
set_option maxRecDepth 100000 in
theorem px_fl_k : (px_fl.all fun q => decide (lw_tbl[q.2.2.2.2]? = some (.fieldLink (px_R q.1) q.2.1 (px_T q.2.2.1 q.2.2.2.1).1 (px_T q.2.2.1 q.2.2.2.1).2.1 (px_T q.2.2.1 q.2.2.2.1).2.2.1))) = true := by decide +kernel
set_option maxRecDepth 100000 in
theorem px_nl_k : (px_nl.all fun q => decide (lw_tbl[q.2.2.2.1]? = some (.classLink (px_R q.1) q.2.1 (px_R q.2.2.1))) && decide (lw_tbl[q.2.2.2.2.1]? = some (.instantiable (px_R q.2.2.1) (px_N q.2.2.1))) && decide (lw_tbl[q.2.2.2.2.2]? = some (.initialized (px_R q.2.2.1)))) = true := by decide +kernel
set_option maxRecDepth 100000 in
theorem px_il_k : (px_il.all fun q => decide (lw_tbl[q.2.2]? = some (.classLink (px_R q.1) q.2.1 "[I"))) = true := by decide +kernel
set_option maxRecDepth 100000 in
theorem px_jl_k : (px_jl.all fun q => decide (lw_tbl[q.2.2.2.2]? = some (if q.2.2.2.1 = 1 then .methodLinkNest (px_R q.1) q.2.1 (px_y q.2.2.1) RX8 else .methodLink (px_R q.1) q.2.1 (px_y q.2.2.1)))) = true := by decide +kernel
def px_xn (a : Nat) : MethodName := if a = 1000 then objectInit else if a = 1001 then arraycopyName else if a = 1003 then Lib.Math.max.name else if a = 1004 then Lib.Math.min.name else ⟨"[I", "clone", "()Ljava/lang/Object;"⟩
set_option maxRecDepth 100000 in
theorem px_xl_k : (px_xl.all fun q => decide (lw_tbl[q.2.2.2]? = some (.methodLink (px_R q.1) q.2.1 (px_xn q.2.2.1)))) = true := by decide +kernel
set_option maxRecDepth 100000 in
theorem px_kl_k : (px_kl.all fun q => decide (lw_tbl[q.2.2.2.2]? = some (if q.2.2.2.1 = 1 then .constantLong (px_R q.1) q.2.1 (Int64.ofInt q.2.2.1) else .constant (px_R q.1) q.2.1 (Int32.ofInt q.2.2.1)))) = true := by decide +kernel
set_option maxRecDepth 100000 in
theorem px_w_arr : Cond.arrayClass .int ∈ lw_tbl ∧ Cond.arrayOver (.object RX3) ∈ lw_tbl ∧ Cond.instanceMethod objectInit ∈ lw_tbl ∧ Cond.code objectInit ⟨#[0xb1]⟩ 1 none ∈ lw_tbl ∧ Cond.native arraycopyName ∈ lw_tbl ∧ Cond.static arraycopyName ∈ lw_tbl ∧ Cond.initialized "java/lang/System" ∈ lw_tbl ∧ Cond.static Lib.Math.max.name ∈ lw_tbl ∧ Cond.static Lib.Math.min.name ∈ lw_tbl ∧ Cond.initialized "java/lang/Math" ∈ lw_tbl ∧ Cond.code Lib.Math.max.name Lib.Math.max.code 2 (some .int) ∈ lw_tbl ∧ Cond.code Lib.Math.min.name Lib.Math.min.code 2 (some .int) ∈ lw_tbl := by decide +kernel
set_option maxRecDepth 100000 in
theorem px_w_cl : Cond.sameMethod "[I" "java/lang/Object" "clone" "()Ljava/lang/Object;" ∈ lw_tbl ∧ Cond.native ⟨"java/lang/Object", "clone", "()Ljava/lang/Object;"⟩ ∈ lw_tbl ∧ Cond.instanceMethod ⟨"java/lang/Object", "clone", "()Ljava/lang/Object;"⟩ ∈ lw_tbl ∧ Cond.selects "[I" ⟨"[I", "clone", "()Ljava/lang/Object;"⟩ ⟨"java/lang/Object", "clone", "()Ljava/lang/Object;"⟩ ∈ lw_tbl ∧ Cond.castable "[I" "java/lang/Cloneable" ∈ lw_tbl := by decide +kernel
set_option maxRecDepth 100000 in
theorem px_mk_k : ((List.range 116).all px_mk) = true := by decide +kernel
set_option maxRecDepth 100000 in
theorem px_lk_k : ((List.range 117).all fun m => (px_tab m).all fun q => px_lk m q.2) = true := by decide +kernel

set_option maxRecDepth 100000 in
theorem px_dk_0 : (([0, 1, 2, 3, 4, 5, 6, 7, 8, 9, 10, 11, 12, 13, 14, 15, 16, 17] : List Nat).all fun m => (px_tab m).all (px_dk m)) = true := by decide +kernel
set_option maxRecDepth 100000 in
theorem px_dk_1 : (([18, 19, 20, 21, 22, 23, 24, 25, 26, 27, 28] : List Nat).all fun m => (px_tab m).all (px_dk m)) = true := by decide +kernel
set_option maxRecDepth 100000 in
theorem px_dk_2 : (([29, 30, 31, 32, 33, 34, 35, 36] : List Nat).all fun m => (px_tab m).all (px_dk m)) = true := by decide +kernel
set_option maxRecDepth 100000 in
theorem px_dk_3 : (([37, 38, 39, 40, 41, 42, 43, 44, 45, 46, 47, 48, 49] : List Nat).all fun m => (px_tab m).all (px_dk m)) = true := by decide +kernel
set_option maxRecDepth 100000 in
theorem px_dk_4 : (([50, 51, 52, 53, 54, 55, 56, 57] : List Nat).all fun m => (px_tab m).all (px_dk m)) = true := by decide +kernel
set_option maxRecDepth 100000 in
theorem px_dk_5 : (([58, 59, 60, 61, 62, 63, 64, 65, 66] : List Nat).all fun m => (px_tab m).all (px_dk m)) = true := by decide +kernel
set_option maxRecDepth 100000 in
theorem px_dk_6 : (([67, 68, 69, 70, 71, 72, 73, 74, 75] : List Nat).all fun m => (px_tab m).all (px_dk m)) = true := by decide +kernel
set_option maxRecDepth 100000 in
theorem px_dk_7 : (([76, 77, 78, 79, 80, 81, 82, 83, 84, 85] : List Nat).all fun m => (px_tab m).all (px_dk m)) = true := by decide +kernel
set_option maxRecDepth 100000 in
theorem px_dk_8 : (([86, 87, 88, 89, 90, 91, 92, 93, 94, 95, 96, 97, 99, 100] : List Nat).all fun m => (px_tab m).all (px_dk m)) = true := by decide +kernel
set_option maxRecDepth 100000 in
theorem px_dk_9 : (([102, 103, 104, 105, 107, 110, 112] : List Nat).all fun m => (px_tab m).all (px_dk m)) = true := by decide +kernel
set_option maxRecDepth 100000 in
theorem px_dk_10 : (([113, 115] : List Nat).all fun m => (px_tab m).all (px_dk m)) = true := by decide +kernel
set_option maxRecDepth 100000 in
theorem px_dl_98_0 : (((px_tab 98).drop 0).take 70).all (px_dk 98) = true := by decide +kernel
set_option maxRecDepth 100000 in
theorem px_dl_98_70 : (((px_tab 98).drop 70).take 70).all (px_dk 98) = true := by decide +kernel
set_option maxRecDepth 100000 in
theorem px_dl_98_140 : (((px_tab 98).drop 140).take 70).all (px_dk 98) = true := by decide +kernel
set_option maxRecDepth 100000 in
theorem px_dl_98_210 : (((px_tab 98).drop 210).take 70).all (px_dk 98) = true := by decide +kernel
set_option maxRecDepth 100000 in
theorem px_dl_98_280 : (((px_tab 98).drop 280).take 70).all (px_dk 98) = true := by decide +kernel
set_option maxRecDepth 100000 in
theorem px_dl_98_350 : (((px_tab 98).drop 350).take 70).all (px_dk 98) = true := by decide +kernel
set_option maxRecDepth 100000 in
theorem px_dm_98 : (px_tab 98).all (px_dk 98) = true := by
  have e : px_tab 98 = ((px_tab 98).drop 0).take 70 ++ ((px_tab 98).drop 70).take 70 ++ ((px_tab 98).drop 140).take 70 ++ ((px_tab 98).drop 210).take 70 ++ ((px_tab 98).drop 280).take 70 ++ ((px_tab 98).drop 350).take 70 := by rfl
  rw [e]
  simp only [List.all_append, px_dl_98_0, px_dl_98_70, px_dl_98_140, px_dl_98_210, px_dl_98_280, px_dl_98_350, Bool.and_self]
set_option maxRecDepth 100000 in
theorem px_dl_101_0 : (((px_tab 101).drop 0).take 70).all (px_dk 101) = true := by decide +kernel
set_option maxRecDepth 100000 in
theorem px_dl_101_70 : (((px_tab 101).drop 70).take 70).all (px_dk 101) = true := by decide +kernel
set_option maxRecDepth 100000 in
theorem px_dl_101_140 : (((px_tab 101).drop 140).take 70).all (px_dk 101) = true := by decide +kernel
set_option maxRecDepth 100000 in
theorem px_dm_101 : (px_tab 101).all (px_dk 101) = true := by
  have e : px_tab 101 = ((px_tab 101).drop 0).take 70 ++ ((px_tab 101).drop 70).take 70 ++ ((px_tab 101).drop 140).take 70 := by rfl
  rw [e]
  simp only [List.all_append, px_dl_101_0, px_dl_101_70, px_dl_101_140, Bool.and_self]
set_option maxRecDepth 100000 in
theorem px_dl_106_0 : (((px_tab 106).drop 0).take 70).all (px_dk 106) = true := by decide +kernel
set_option maxRecDepth 100000 in
theorem px_dl_106_70 : (((px_tab 106).drop 70).take 70).all (px_dk 106) = true := by decide +kernel
set_option maxRecDepth 100000 in
theorem px_dm_106 : (px_tab 106).all (px_dk 106) = true := by
  have e : px_tab 106 = ((px_tab 106).drop 0).take 70 ++ ((px_tab 106).drop 70).take 70 := by rfl
  rw [e]
  simp only [List.all_append, px_dl_106_0, px_dl_106_70, Bool.and_self]
set_option maxRecDepth 100000 in
theorem px_dl_108_0 : (((px_tab 108).drop 0).take 70).all (px_dk 108) = true := by decide +kernel
set_option maxRecDepth 100000 in
theorem px_dl_108_70 : (((px_tab 108).drop 70).take 70).all (px_dk 108) = true := by decide +kernel
set_option maxRecDepth 100000 in
theorem px_dl_108_140 : (((px_tab 108).drop 140).take 70).all (px_dk 108) = true := by decide +kernel
set_option maxRecDepth 100000 in
theorem px_dm_108 : (px_tab 108).all (px_dk 108) = true := by
  have e : px_tab 108 = ((px_tab 108).drop 0).take 70 ++ ((px_tab 108).drop 70).take 70 ++ ((px_tab 108).drop 140).take 70 := by rfl
  rw [e]
  simp only [List.all_append, px_dl_108_0, px_dl_108_70, px_dl_108_140, Bool.and_self]
set_option maxRecDepth 100000 in
theorem px_dl_109_0 : (((px_tab 109).drop 0).take 70).all (px_dk 109) = true := by decide +kernel
set_option maxRecDepth 100000 in
theorem px_dl_109_70 : (((px_tab 109).drop 70).take 70).all (px_dk 109) = true := by decide +kernel
set_option maxRecDepth 100000 in
theorem px_dm_109 : (px_tab 109).all (px_dk 109) = true := by
  have e : px_tab 109 = ((px_tab 109).drop 0).take 70 ++ ((px_tab 109).drop 70).take 70 := by rfl
  rw [e]
  simp only [List.all_append, px_dl_109_0, px_dl_109_70, Bool.and_self]
set_option maxRecDepth 100000 in
theorem px_dl_111_0 : (((px_tab 111).drop 0).take 70).all (px_dk 111) = true := by decide +kernel
set_option maxRecDepth 100000 in
theorem px_dl_111_70 : (((px_tab 111).drop 70).take 70).all (px_dk 111) = true := by decide +kernel
set_option maxRecDepth 100000 in
theorem px_dl_111_140 : (((px_tab 111).drop 140).take 70).all (px_dk 111) = true := by decide +kernel
set_option maxRecDepth 100000 in
theorem px_dl_111_210 : (((px_tab 111).drop 210).take 70).all (px_dk 111) = true := by decide +kernel
set_option maxRecDepth 100000 in
theorem px_dl_111_280 : (((px_tab 111).drop 280).take 70).all (px_dk 111) = true := by decide +kernel
set_option maxRecDepth 100000 in
theorem px_dl_111_350 : (((px_tab 111).drop 350).take 70).all (px_dk 111) = true := by decide +kernel
set_option maxRecDepth 100000 in
theorem px_dm_111 : (px_tab 111).all (px_dk 111) = true := by
  have e : px_tab 111 = ((px_tab 111).drop 0).take 70 ++ ((px_tab 111).drop 70).take 70 ++ ((px_tab 111).drop 140).take 70 ++ ((px_tab 111).drop 210).take 70 ++ ((px_tab 111).drop 280).take 70 ++ ((px_tab 111).drop 350).take 70 := by rfl
  rw [e]
  simp only [List.all_append, px_dl_111_0, px_dl_111_70, px_dl_111_140, px_dl_111_210, px_dl_111_280, px_dl_111_350, Bool.and_self]
set_option maxRecDepth 100000 in
theorem px_dl_114_0 : (((px_tab 114).drop 0).take 70).all (px_dk 114) = true := by decide +kernel
set_option maxRecDepth 100000 in
theorem px_dl_114_70 : (((px_tab 114).drop 70).take 70).all (px_dk 114) = true := by decide +kernel
set_option maxRecDepth 100000 in
theorem px_dl_114_140 : (((px_tab 114).drop 140).take 70).all (px_dk 114) = true := by decide +kernel
set_option maxRecDepth 100000 in
theorem px_dm_114 : (px_tab 114).all (px_dk 114) = true := by
  have e : px_tab 114 = ((px_tab 114).drop 0).take 70 ++ ((px_tab 114).drop 70).take 70 ++ ((px_tab 114).drop 140).take 70 := by rfl
  rw [e]
  simp only [List.all_append, px_dl_114_0, px_dl_114_70, px_dl_114_140, Bool.and_self]
set_option maxRecDepth 100000 in
theorem px_dl_116_0 : (((px_tab 116).drop 0).take 70).all (px_dk 116) = true := by decide +kernel
set_option maxRecDepth 100000 in
theorem px_dl_116_70 : (((px_tab 116).drop 70).take 70).all (px_dk 116) = true := by decide +kernel
set_option maxRecDepth 100000 in
theorem px_dl_116_140 : (((px_tab 116).drop 140).take 70).all (px_dk 116) = true := by decide +kernel
set_option maxRecDepth 100000 in
theorem px_dl_116_210 : (((px_tab 116).drop 210).take 70).all (px_dk 116) = true := by decide +kernel
set_option maxRecDepth 100000 in
theorem px_dl_116_280 : (((px_tab 116).drop 280).take 70).all (px_dk 116) = true := by decide +kernel
set_option maxRecDepth 100000 in
theorem px_dl_116_350 : (((px_tab 116).drop 350).take 70).all (px_dk 116) = true := by decide +kernel
set_option maxRecDepth 100000 in
theorem px_dm_116 : (px_tab 116).all (px_dk 116) = true := by
  have e : px_tab 116 = ((px_tab 116).drop 0).take 70 ++ ((px_tab 116).drop 70).take 70 ++ ((px_tab 116).drop 140).take 70 ++ ((px_tab 116).drop 210).take 70 ++ ((px_tab 116).drop 280).take 70 ++ ((px_tab 116).drop 350).take 70 := by rfl
  rw [e]
  simp only [List.all_append, px_dl_116_0, px_dl_116_70, px_dl_116_140, px_dl_116_210, px_dl_116_280, px_dl_116_350, Bool.and_self]
set_option maxRecDepth 100000 in
theorem px_case : ((List.range 117).all fun m => (([0, 1, 2, 3, 4, 5, 6, 7, 8, 9, 10, 11, 12, 13, 14, 15, 16, 17] : List Nat).contains m || (([18, 19, 20, 21, 22, 23, 24, 25, 26, 27, 28] : List Nat).contains m || (([29, 30, 31, 32, 33, 34, 35, 36] : List Nat).contains m || (([37, 38, 39, 40, 41, 42, 43, 44, 45, 46, 47, 48, 49] : List Nat).contains m || (([50, 51, 52, 53, 54, 55, 56, 57] : List Nat).contains m || (([58, 59, 60, 61, 62, 63, 64, 65, 66] : List Nat).contains m || (([67, 68, 69, 70, 71, 72, 73, 74, 75] : List Nat).contains m || (([76, 77, 78, 79, 80, 81, 82, 83, 84, 85] : List Nat).contains m || (([86, 87, 88, 89, 90, 91, 92, 93, 94, 95, 96, 97, 99, 100] : List Nat).contains m || (([102, 103, 104, 105, 107, 110, 112] : List Nat).contains m || (([113, 115] : List Nat).contains m || (([98] : List Nat).contains m || (([101] : List Nat).contains m || (([106] : List Nat).contains m || (([108] : List Nat).contains m || (([109] : List Nat).contains m || (([111] : List Nat).contains m || (([114] : List Nat).contains m || (([116] : List Nat).contains m)))))))))))))))))))) = true := by decide +kernel
theorem px_dall : ∀ m, m < 117 → (px_tab m).all (px_dk m) = true := by
  intro m hm
  have h := List.all_eq_true.mp px_case m (List.mem_range.mpr hm)
  simp only [Bool.or_eq_true] at h
  rcases h with h | h | h | h | h | h | h | h | h | h | h | h | h | h | h | h | h | h | h
  · exact List.all_eq_true.mp px_dk_0 m (List.contains_iff_mem.mp h)
  · exact List.all_eq_true.mp px_dk_1 m (List.contains_iff_mem.mp h)
  · exact List.all_eq_true.mp px_dk_2 m (List.contains_iff_mem.mp h)
  · exact List.all_eq_true.mp px_dk_3 m (List.contains_iff_mem.mp h)
  · exact List.all_eq_true.mp px_dk_4 m (List.contains_iff_mem.mp h)
  · exact List.all_eq_true.mp px_dk_5 m (List.contains_iff_mem.mp h)
  · exact List.all_eq_true.mp px_dk_6 m (List.contains_iff_mem.mp h)
  · exact List.all_eq_true.mp px_dk_7 m (List.contains_iff_mem.mp h)
  · exact List.all_eq_true.mp px_dk_8 m (List.contains_iff_mem.mp h)
  · exact List.all_eq_true.mp px_dk_9 m (List.contains_iff_mem.mp h)
  · exact List.all_eq_true.mp px_dk_10 m (List.contains_iff_mem.mp h)
  · rw [List.mem_singleton.mp (List.contains_iff_mem.mp h)]; exact px_dm_98
  · rw [List.mem_singleton.mp (List.contains_iff_mem.mp h)]; exact px_dm_101
  · rw [List.mem_singleton.mp (List.contains_iff_mem.mp h)]; exact px_dm_106
  · rw [List.mem_singleton.mp (List.contains_iff_mem.mp h)]; exact px_dm_108
  · rw [List.mem_singleton.mp (List.contains_iff_mem.mp h)]; exact px_dm_109
  · rw [List.mem_singleton.mp (List.contains_iff_mem.mp h)]; exact px_dm_111
  · rw [List.mem_singleton.mp (List.contains_iff_mem.mp h)]; exact px_dm_114
  · rw [List.mem_singleton.mp (List.contains_iff_mem.mp h)]; exact px_dm_116
set_option maxRecDepth 100000 in
theorem px_cw_0 : ∀ m, m < 20 → Cond.code (px_y (0 + m)) (px_c (0 + m)) (px_ml (0 + m)) (px_rt (0 + m)) ∈ lw_tbl := by
  intro m hm
  have h : m = 0 ∨ m = 1 ∨ m = 2 ∨ m = 3 ∨ m = 4 ∨ m = 5 ∨ m = 6 ∨ m = 7 ∨ m = 8 ∨ m = 9 ∨ m = 10 ∨ m = 11 ∨ m = 12 ∨ m = 13 ∨ m = 14 ∨ m = 15 ∨ m = 16 ∨ m = 17 ∨ m = 18 ∨ m = 19 := by omega
  rcases h with rfl | rfl | rfl | rfl | rfl | rfl | rfl | rfl | rfl | rfl | rfl | rfl | rfl | rfl | rfl | rfl | rfl | rfl | rfl | rfl
  · exact List.mem_of_getElem? (i := 107) (rfl : lw_tbl[107]? = some (Cond.code yX0_init cX0_init 1 none))
  · exact List.mem_of_getElem? (i := 402) (rfl : lw_tbl[402]? = some (Cond.code yX0_rowPart cX0_rowPart 4 (some .int)))
  · exact List.mem_of_getElem? (i := 352) (rfl : lw_tbl[352]? = some (Cond.code yX0_writeRowPart cX0_writeRowPart 5 none))
  · exact List.mem_of_getElem? (i := 139) (rfl : lw_tbl[139]? = some (Cond.code yX0_padCount cX0_padCount 2 (some .int)))
  · exact List.mem_of_getElem? (i := 385) (rfl : lw_tbl[385]? = some (Cond.code yX0_writePadCount cX0_writePadCount 3 none))
  · exact List.mem_of_getElem? (i := 146) (rfl : lw_tbl[146]? = some (Cond.code yX0_padPart cX0_padPart 4 (some .int)))
  · exact List.mem_of_getElem? (i := 381) (rfl : lw_tbl[381]? = some (Cond.code yX0_writePadPart cX0_writePadPart 5 none))
  · exact List.mem_of_getElem? (i := 499) (rfl : lw_tbl[499]? = some (Cond.code yX0_saveCount cX0_saveCount 2 (some .int)))
  · exact List.mem_of_getElem? (i := 503) (rfl : lw_tbl[503]? = some (Cond.code yX0_saveAddress cX0_saveAddress 3 (some .int)))
  · exact List.mem_of_getElem? (i := 511) (rfl : lw_tbl[511]? = some (Cond.code yX0_saveRegister cX0_saveRegister 3 (some .int)))
  · exact List.mem_of_getElem? (i := 507) (rfl : lw_tbl[507]? = some (Cond.code yX0_saveCell cX0_saveCell 3 (some .int)))
  · exact List.mem_of_getElem? (i := 361) (rfl : lw_tbl[361]? = some (Cond.code yX0_addSave cX0_addSave 6 none))
  · exact List.mem_of_getElem? (i := 657) (rfl : lw_tbl[657]? = some (Cond.code yX0_countPads cX0_countPads 3 (some .int)))
  · exact List.mem_of_getElem? (i := 661) (rfl : lw_tbl[661]? = some (Cond.code yX0_countSavingAddresses cX0_countSavingAddresses 4 (some .int)))
  · exact List.mem_of_getElem? (i := 665) (rfl : lw_tbl[665]? = some (Cond.code yX0_isAnythingSaved cX0_isAnythingSaved 4 (some .boolean)))
  · exact List.mem_of_getElem? (i := 586) (rfl : lw_tbl[586]? = some (Cond.code yX1_init cX1_init 2 none))
  · exact List.mem_of_getElem? (i := 600) (rfl : lw_tbl[600]? = some (Cond.code yX1_draw cX1_draw 2 (some .int)))
  · exact List.mem_of_getElem? (i := 596) (rfl : lw_tbl[596]? = some (Cond.code yX1_doOne cX1_doOne 3 (some .boolean)))
  · exact List.mem_of_getElem? (i := 611) (rfl : lw_tbl[611]? = some (Cond.code yX1_throwDrawn cX1_throwDrawn 4 (some .boolean)))
  · exact List.mem_of_getElem? (i := 66) (rfl : lw_tbl[66]? = some (Cond.code yX2_init cX2_init 1 none))
set_option maxRecDepth 100000 in
theorem px_cw_20 : ∀ m, m < 20 → Cond.code (px_y (20 + m)) (px_c (20 + m)) (px_ml (20 + m)) (px_rt (20 + m)) ∈ lw_tbl := by
  intro m hm
  have h : m = 0 ∨ m = 1 ∨ m = 2 ∨ m = 3 ∨ m = 4 ∨ m = 5 ∨ m = 6 ∨ m = 7 ∨ m = 8 ∨ m = 9 ∨ m = 10 ∨ m = 11 ∨ m = 12 ∨ m = 13 ∨ m = 14 ∨ m = 15 ∨ m = 16 ∨ m = 17 ∨ m = 18 ∨ m = 19 := by omega
  rcases h with rfl | rfl | rfl | rfl | rfl | rfl | rfl | rfl | rfl | rfl | rfl | rfl | rfl | rfl | rfl | rfl | rfl | rfl | rfl | rfl
  · exact List.mem_of_getElem? (i := 389) (rfl : lw_tbl[389]? = some (Cond.code yX2_empty cX2_empty 1 none))
  · exact List.mem_of_getElem? (i := 474) (rfl : lw_tbl[474]? = some (Cond.code yX2_add cX2_add 2 none))
  · exact List.mem_of_getElem? (i := 134) (rfl : lw_tbl[134]? = some (Cond.code yX3_init cX3_init 4 none))
  · exact List.mem_of_getElem? (i := 480) (rfl : lw_tbl[480]? = some (Cond.code yX3_init_ cX3_init_ 2 none))
  · exact List.mem_of_getElem? (i := 449) (rfl : lw_tbl[449]? = some (Cond.code yX3_levelOf cX3_levelOf 2 (some .int)))
  · exact List.mem_of_getElem? (i := 519) (rfl : lw_tbl[519]? = some (Cond.code yX3_latestAddress cX3_latestAddress 1 (some .int)))
  · exact List.mem_of_getElem? (i := 491) (rfl : lw_tbl[491]? = some (Cond.code yX3_enter cX3_enter 3 none))
  · exact List.mem_of_getElem? (i := 523) (rfl : lw_tbl[523]? = some (Cond.code yX3_step cX3_step 1 none))
  · exact List.mem_of_getElem? (i := 495) (rfl : lw_tbl[495]? = some (Cond.code yX3_saveAtLatest cX3_saveAtLatest 4 none))
  · exact List.mem_of_getElem? (i := 557) (rfl : lw_tbl[557]? = some (Cond.code yX3_leave cX3_leave 2 none))
  · exact List.mem_of_getElem? (i := 457) (rfl : lw_tbl[457]? = some (Cond.code yX3_behindBack cX3_behindBack 5 (some .int)))
  · exact List.mem_of_getElem? (i := 453) (rfl : lw_tbl[453]? = some (Cond.code yX3_callerOf cX3_callerOf 5 (some .int)))
  · exact List.mem_of_getElem? (i := 539) (rfl : lw_tbl[539]? = some (Cond.code yX3_catcherOf cX3_catcherOf 5 (some .int)))
  · exact List.mem_of_getElem? (i := 544) (rfl : lw_tbl[544]? = some (Cond.code yX3_deedAt cX3_deedAt 6 (some .int)))
  · exact List.mem_of_getElem? (i := 569) (rfl : lw_tbl[569]? = some (Cond.code yX3_countFinishing cX3_countFinishing 6 (some .int)))
  · exact List.mem_of_getElem? (i := 549) (rfl : lw_tbl[549]? = some (Cond.code yX3_unwindTo cX3_unwindTo 5 none))
  · exact List.mem_of_getElem? (i := 553) (rfl : lw_tbl[553]? = some (Cond.code yX3_finishAtLatest cX3_finishAtLatest 5 none))
  · exact List.mem_of_getElem? (i := 49) (rfl : lw_tbl[49]? = some (Cond.code yX4_init cX4_init 1 none))
  · exact List.mem_of_getElem? (i := 637) (rfl : lw_tbl[637]? = some (Cond.code yX4_write cX4_write 2 none))
  · exact List.mem_of_getElem? (i := 250) (rfl : lw_tbl[250]? = some (Cond.code yX4_codeAt cX4_codeAt 2 (some .int)))
set_option maxRecDepth 100000 in
theorem px_cw_40 : ∀ m, m < 20 → Cond.code (px_y (40 + m)) (px_c (40 + m)) (px_ml (40 + m)) (px_rt (40 + m)) ∈ lw_tbl := by
  intro m hm
  have h : m = 0 ∨ m = 1 ∨ m = 2 ∨ m = 3 ∨ m = 4 ∨ m = 5 ∨ m = 6 ∨ m = 7 ∨ m = 8 ∨ m = 9 ∨ m = 10 ∨ m = 11 ∨ m = 12 ∨ m = 13 ∨ m = 14 ∨ m = 15 ∨ m = 16 ∨ m = 17 ∨ m = 18 ∨ m = 19 := by omega
  rcases h with rfl | rfl | rfl | rfl | rfl | rfl | rfl | rfl | rfl | rfl | rfl | rfl | rfl | rfl | rfl | rfl | rfl | rfl | rfl | rfl
  · exact List.mem_of_getElem? (i := 343) (rfl : lw_tbl[343]? = some (Cond.code yX4_digitAt cX4_digitAt 2 (some .int)))
  · exact List.mem_of_getElem? (i := 219) (rfl : lw_tbl[219]? = some (Cond.code yX5_init cX5_init 1 none))
  · exact List.mem_of_getElem? (i := 246) (rfl : lw_tbl[246]? = some (Cond.code yX5_firstFault cX5_firstFault 3 (some .int)))
  · exact List.mem_of_getElem? (i := 292) (rfl : lw_tbl[292]? = some (Cond.code yX5_mayEnd cX5_mayEnd 1 (some .boolean)))
  · exact List.mem_of_getElem? (i := 257) (rfl : lw_tbl[257]? = some (Cond.code yX5_takes cX5_takes 2 (some .boolean)))
  · exact List.mem_of_getElem? (i := 261) (rfl : lw_tbl[261]? = some (Cond.code yX5_takesOp cX5_takesOp 2 (some .boolean)))
  · exact List.mem_of_getElem? (i := 265) (rfl : lw_tbl[265]? = some (Cond.code yX5_takesOpLetter cX5_takesOpLetter 2 (some .boolean)))
  · exact List.mem_of_getElem? (i := 269) (rfl : lw_tbl[269]? = some (Cond.code yX5_takesFarther cX5_takesFarther 2 (some .boolean)))
  · exact List.mem_of_getElem? (i := 273) (rfl : lw_tbl[273]? = some (Cond.code yX5_takesDigit cX5_takesDigit 6 (some .boolean)))
  · exact List.mem_of_getElem? (i := 277) (rfl : lw_tbl[277]? = some (Cond.code yX5_takesBetweenPads cX5_takesBetweenPads 2 (some .boolean)))
  · exact List.mem_of_getElem? (i := 281) (rfl : lw_tbl[281]? = some (Cond.code yX5_beginFunction cX5_beginFunction 1 none))
  · exact List.mem_of_getElem? (i := 297) (rfl : lw_tbl[297]? = some (Cond.code yX6_init cX6_init 3 none))
  · exact List.mem_of_getElem? (i := 327) (rfl : lw_tbl[327]? = some (Cond.code yX6_writeText cX6_writeText 2 none))
  · exact List.mem_of_getElem? (i := 331) (rfl : lw_tbl[331]? = some (Cond.code yX6_writeProgram cX6_writeProgram 3 none))
  · exact List.mem_of_getElem? (i := 339) (rfl : lw_tbl[339]? = some (Cond.code yX6_writeOp cX6_writeOp 4 none))
  · exact List.mem_of_getElem? (i := 356) (rfl : lw_tbl[356]? = some (Cond.code yX6_save cX6_save 4 none))
  · exact List.mem_of_getElem? (i := 365) (rfl : lw_tbl[365]? = some (Cond.code yX6_free cX6_free 2 none))
  · exact List.mem_of_getElem? (i := 369) (rfl : lw_tbl[369]? = some (Cond.code yX6_rememberOrGoBack cX6_rememberOrGoBack 2 none))
  · exact List.mem_of_getElem? (i := 348) (rfl : lw_tbl[348]? = some (Cond.code yX6_writeRowsTo cX6_writeRowsTo 5 none))
  · exact List.mem_of_getElem? (i := 376) (rfl : lw_tbl[376]? = some (Cond.code yX6_writePads cX6_writePads 4 none))
set_option maxRecDepth 100000 in
theorem px_cw_60 : ∀ m, m < 20 → Cond.code (px_y (60 + m)) (px_c (60 + m)) (px_ml (60 + m)) (px_rt (60 + m)) ∈ lw_tbl := by
  intro m hm
  have h : m = 0 ∨ m = 1 ∨ m = 2 ∨ m = 3 ∨ m = 4 ∨ m = 5 ∨ m = 6 ∨ m = 7 ∨ m = 8 ∨ m = 9 ∨ m = 10 ∨ m = 11 ∨ m = 12 ∨ m = 13 ∨ m = 14 ∨ m = 15 ∨ m = 16 ∨ m = 17 ∨ m = 18 ∨ m = 19 := by omega
  rcases h with rfl | rfl | rfl | rfl | rfl | rfl | rfl | rfl | rfl | rfl | rfl | rfl | rfl | rfl | rfl | rfl | rfl | rfl | rfl | rfl
  · exact List.mem_of_getElem? (i := 85) (rfl : lw_tbl[85]? = some (Cond.code yX7_init cX7_init 1 none))
  · exact List.mem_of_getElem? (i := 417) (rfl : lw_tbl[417]? = some (Cond.code yX7_sortsOf cX7_sortsOf 5 (some .int)))
  · exact List.mem_of_getElem? (i := 421) (rfl : lw_tbl[421]? = some (Cond.code yX7_canBe cX7_canBe 5 (some .boolean)))
  · exact List.mem_of_getElem? (i := 41) (rfl : lw_tbl[41]? = some (Cond.code yX8_init cX8_init 1 none))
  · exact List.mem_of_getElem? (i := 633) (rfl : lw_tbl[633]? = some (Cond.code yX8_letter cX8_letter 2 (some .int)))
  · exact List.mem_of_getElem? (i := 214) (rfl : lw_tbl[214]? = some (Cond.code yX8_fault cX8_fault 1 (some .int)))
  · exact List.mem_of_getElem? (i := 288) (rfl : lw_tbl[288]? = some (Cond.code yX8_text cX8_text 3 (some .int)))
  · exact List.mem_of_getElem? (i := 393) (rfl : lw_tbl[393]? = some (Cond.code yX8_row cX8_row 4 (some .int)))
  · exact List.mem_of_getElem? (i := 406) (rfl : lw_tbl[406]? = some (Cond.code yX8_pad cX8_pad 6 (some .int)))
  · exact List.mem_of_getElem? (i := 438) (rfl : lw_tbl[438]? = some (Cond.code yX8_as cX8_as 4 (some .int)))
  · exact List.mem_of_getElem? (i := 445) (rfl : lw_tbl[445]? = some (Cond.code yX8_frame cX8_frame 4 (some .int)))
  · exact List.mem_of_getElem? (i := 462) (rfl : lw_tbl[462]? = some (Cond.code yX8_register cX8_register 2 (some .int)))
  · exact List.mem_of_getElem? (i := 466) (rfl : lw_tbl[466]? = some (Cond.code yX8_call cX8_call 2 (some .int)))
  · exact List.mem_of_getElem? (i := 515) (rfl : lw_tbl[515]? = some (Cond.code yX8_go cX8_go 3 (some .int)))
  · exact List.mem_of_getElem? (i := 527) (rfl : lw_tbl[527]? = some (Cond.code yX8_set cX8_set 4 (some .int)))
  · exact List.mem_of_getElem? (i := 679) (rfl : lw_tbl[679]? = some (Cond.code yX8_back cX8_back 1 (some .int)))
  · exact List.mem_of_getElem? (i := 535) (rfl : lw_tbl[535]? = some (Cond.code yX8_raise cX8_raise 3 (some .int)))
  · exact List.mem_of_getElem? (i := 561) (rfl : lw_tbl[561]? = some (Cond.code yX8_change cX8_change 5 (some .int)))
  · exact List.mem_of_getElem? (i := 565) (rfl : lw_tbl[565]? = some (Cond.code yX8_search cX8_search 4 (some .int)))
  · exact List.mem_of_getElem? (i := 702) (rfl : lw_tbl[702]? = some (Cond.code yX8_loose cX8_loose 3 (some .int)))
set_option maxRecDepth 100000 in
theorem px_cw_80 : ∀ m, m < 20 → Cond.code (px_y (80 + m)) (px_c (80 + m)) (px_ml (80 + m)) (px_rt (80 + m)) ∈ lw_tbl := by
  intro m hm
  have h : m = 0 ∨ m = 1 ∨ m = 2 ∨ m = 3 ∨ m = 4 ∨ m = 5 ∨ m = 6 ∨ m = 7 ∨ m = 8 ∨ m = 9 ∨ m = 10 ∨ m = 11 ∨ m = 12 ∨ m = 13 ∨ m = 14 ∨ m = 15 ∨ m = 16 ∨ m = 17 ∨ m = 18 ∨ m = 19 := by omega
  rcases h with rfl | rfl | rfl | rfl | rfl | rfl | rfl | rfl | rfl | rfl | rfl | rfl | rfl | rfl | rfl | rfl | rfl | rfl | rfl | rfl
  · exact List.mem_of_getElem? (i := 573) (rfl : lw_tbl[573]? = some (Cond.code yX8_finished cX8_finished 2 (some .int)))
  · exact List.mem_of_getElem? (i := 577) (rfl : lw_tbl[577]? = some (Cond.code yX8_same cX8_same 5 (some .int)))
  · exact List.mem_of_getElem? (i := 581) (rfl : lw_tbl[581]? = some (Cond.code yX8_drawn cX8_drawn 8 (some .int)))
  · exact List.mem_of_getElem? (i := 653) (rfl : lw_tbl[653]? = some (Cond.code yX8_count cX8_count 2 (some .int)))
  · exact List.mem_of_getElem? (i := 531) (rfl : lw_tbl[531]? = some (Cond.code yX8_hasText cX8_hasText 1 (some .boolean)))
  · exact List.mem_of_getElem? (i := 397) (rfl : lw_tbl[397]? = some (Cond.code yX8_isFunction cX8_isFunction 2 (some .boolean)))
  · exact List.mem_of_getElem? (i := 410) (rfl : lw_tbl[410]? = some (Cond.code yX8_isPad cX8_isPad 3 (some .boolean)))
  · exact List.mem_of_getElem? (i := 470) (rfl : lw_tbl[470]? = some (Cond.code yX8_beginDoing cX8_beginDoing 1 none))
  · exact List.mem_of_getElem? (i := 253) (rfl : lw_tbl[253]? = some (Cond.code yX8_isBelow cX8_isBelow 2 (some .boolean)))
  · exact List.mem_of_getElem? (i := 142) (rfl : lw_tbl[142]? = some (Cond.code yX8_slot cX8_slot 2 (some .int)))
  · exact List.mem_of_getElem? (i := 284) (rfl : lw_tbl[284]? = some (Cond.code yX8_kindOfLetter cX8_kindOfLetter 1 (some .int)))
  · exact List.mem_of_getElem? (i := 441) (rfl : lw_tbl[441]? = some (Cond.code yX8_isOfKind cX8_isOfKind 2 (some .boolean)))
  · exact List.mem_of_getElem? (i := 424) (rfl : lw_tbl[424]? = some (Cond.code yX8_deedOf cX8_deedOf 3 (some .int)))
  · exact List.mem_of_getElem? (i := 427) (rfl : lw_tbl[427]? = some (Cond.code yX8_bestToThrow cX8_bestToThrow 6 (some .int)))
  · exact List.mem_of_getElem? (i := 430) (rfl : lw_tbl[430]? = some (Cond.code yX8_leftAtWorst cX8_leftAtWorst 7 (some .int)))
  · exact List.mem_of_getElem? (i := 334) (rfl : lw_tbl[334]? = some (Cond.code yJ7_fill_53178 cJ7_fill_53178 4 none))
  · exact List.mem_of_getElem? (i := 616) (rfl : lw_tbl[616]? = some (Cond.code yL_cell cL_cell 2 (some .int)))
  · exact List.mem_of_getElem? (i := 620) (rfl : lw_tbl[620]? = some (Cond.code yL_at cL_at 2 (some .int)))
  · exact List.mem_of_getElem? (i := 623) (rfl : lw_tbl[623]? = some (Cond.code yL_codeText cL_codeText 16 (some .int)))
  · exact List.mem_of_getElem? (i := 626) (rfl : lw_tbl[626]? = some (Cond.code yL_letterOf cL_letterOf 1 (some .int)))
set_option maxRecDepth 100000 in
theorem px_cw_100 : ∀ m, m < 16 → Cond.code (px_y (100 + m)) (px_c (100 + m)) (px_ml (100 + m)) (px_rt (100 + m)) ∈ lw_tbl := by
  intro m hm
  have h : m = 0 ∨ m = 1 ∨ m = 2 ∨ m = 3 ∨ m = 4 ∨ m = 5 ∨ m = 6 ∨ m = 7 ∨ m = 8 ∨ m = 9 ∨ m = 10 ∨ m = 11 ∨ m = 12 ∨ m = 13 ∨ m = 14 ∨ m = 15 := by omega
  rcases h with rfl | rfl | rfl | rfl | rfl | rfl | rfl | rfl | rfl | rfl | rfl | rfl | rfl | rfl | rfl | rfl
  · exact List.mem_of_getElem? (i := 629) (rfl : lw_tbl[629]? = some (Cond.code yL_spell cL_spell 4 (some .boolean)))
  · exact List.mem_of_getElem? (i := 643) (rfl : lw_tbl[643]? = some (Cond.code yL_row cL_row 10 none))
  · exact List.mem_of_getElem? (i := 675) (rfl : lw_tbl[675]? = some (Cond.code yL_come cL_come 9 none))
  · exact List.mem_of_getElem? (i := 672) (rfl : lw_tbl[672]? = some (Cond.code yL_callNow cL_callNow 7 none))
  · exact List.mem_of_getElem? (i := 649) (rfl : lw_tbl[649]? = some (Cond.code yL_back cL_back 7 none))
  · exact List.mem_of_getElem? (i := 686) (rfl : lw_tbl[686]? = some (Cond.code yL_does cL_does 3 (some .int)))
  · exact List.mem_of_getElem? (i := 683) (rfl : lw_tbl[683]? = some (Cond.code yL_look cL_look 13 none))
  · exact List.mem_of_getElem? (i := 692) (rfl : lw_tbl[692]? = some (Cond.code yL_throwNow cL_throwNow 6 none))
  · exact List.mem_of_getElem? (i := 640) (rfl : lw_tbl[640]? = some (Cond.code yL_stands cL_stands 12 (some .boolean)))
  · exact List.mem_of_getElem? (i := 646) (rfl : lw_tbl[646]? = some (Cond.code yL_machine cL_machine 9 (some .boolean)))
  · exact List.mem_of_getElem? (i := 689) (rfl : lw_tbl[689]? = some (Cond.code yL_copy cL_copy 4 none))
  · exact List.mem_of_getElem? (i := 669) (rfl : lw_tbl[669]? = some (Cond.code yL_act cL_act 12 (some .boolean)))
  · exact List.mem_of_getElem? (i := 695) (rfl : lw_tbl[695]? = some (Cond.code yL_done cL_done 3 (some .boolean)))
  · exact List.mem_of_getElem? (i := 698) (rfl : lw_tbl[698]? = some (Cond.code yL_search cL_search 9 (some .boolean)))
  · exact List.mem_of_getElem? (i := 705) (rfl : lw_tbl[705]? = some (Cond.code yL_drawn cL_drawn 17 (some .boolean)))
  · exact List.mem_of_getElem? (i := 708) (rfl : lw_tbl[708]? = some (Cond.code yL_after cL_after 2 (some .long)))
theorem px_cwl : ∀ m, m < 116 → Cond.code (px_y m) (px_c m) (px_ml m) (px_rt m) ∈ lw_tbl := by
  intro m hm
  by_cases h0 : m < 20
  · have h := px_cw_0 (m - 0) (by omega)
    rw [show 0 + (m - 0) = m by omega] at h
    exact h
  by_cases h20 : m < 40
  · have h := px_cw_20 (m - 20) (by omega)
    rw [show 20 + (m - 20) = m by omega] at h
    exact h
  by_cases h40 : m < 60
  · have h := px_cw_40 (m - 40) (by omega)
    rw [show 40 + (m - 40) = m by omega] at h
    exact h
  by_cases h60 : m < 80
  · have h := px_cw_60 (m - 60) (by omega)
    rw [show 60 + (m - 60) = m by omega] at h
    exact h
  by_cases h80 : m < 100
  · have h := px_cw_80 (m - 80) (by omega)
    rw [show 80 + (m - 80) = m by omega] at h
    exact h
  by_cases h100 : m < 116
  · have h := px_cw_100 (m - 100) (by omega)
    rw [show 100 + (m - 100) = m by omega] at h
    exact h
  exact absurd hm (by omega)
