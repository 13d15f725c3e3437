-- ===== PART A: goes FIRST, ahead of the names: the tables' words, and 'selects' of the private methods out of them =====
/-- a private method of a class that the tables say can be made, by its rows of tables_1 -/
def lw_okq (q : MethodName × Nat) : Prop := (q.1.cls ≠ "java/lang/invoke/MethodHandle" ∧ q.1.cls ≠ "java/lang/invoke/VarHandle") ∧ Cond.instantiable q.1.cls q.2 ∈ tables_1 ∧ Cond.privateMethod q.1 ∈ tables_1 ∧ Cond.instanceMethod q.1 ∈ tables_1
theorem lw_p0 : lw_okq (⟨"RowUnwinder$Reader", "takesOp", "(I)Z"⟩, 7) := ⟨⟨by decide +kernel, by decide +kernel⟩, List.mem_of_getElem? (i := 192) (by decide +kernel), List.mem_of_getElem? (i := 235) (by decide +kernel), List.mem_of_getElem? (i := 236) (by decide +kernel)⟩
theorem lw_p1 : lw_okq (⟨"RowUnwinder$Reader", "takesOpLetter", "(I)Z"⟩, 7) := ⟨⟨by decide +kernel, by decide +kernel⟩, List.mem_of_getElem? (i := 192) (by decide +kernel), List.mem_of_getElem? (i := 239) (by decide +kernel), List.mem_of_getElem? (i := 240) (by decide +kernel)⟩
theorem lw_p2 : lw_okq (⟨"RowUnwinder$Reader", "takesFarther", "(I)Z"⟩, 7) := ⟨⟨by decide +kernel, by decide +kernel⟩, List.mem_of_getElem? (i := 192) (by decide +kernel), List.mem_of_getElem? (i := 243) (by decide +kernel), List.mem_of_getElem? (i := 244) (by decide +kernel)⟩
theorem lw_p3 : lw_okq (⟨"RowUnwinder$Reader", "takesDigit", "(IIII)Z"⟩, 7) := ⟨⟨by decide +kernel, by decide +kernel⟩, List.mem_of_getElem? (i := 192) (by decide +kernel), List.mem_of_getElem? (i := 247) (by decide +kernel), List.mem_of_getElem? (i := 248) (by decide +kernel)⟩
theorem lw_p4 : lw_okq (⟨"RowUnwinder$Reader", "takesBetweenPads", "(I)Z"⟩, 7) := ⟨⟨by decide +kernel, by decide +kernel⟩, List.mem_of_getElem? (i := 192) (by decide +kernel), List.mem_of_getElem? (i := 251) (by decide +kernel), List.mem_of_getElem? (i := 252) (by decide +kernel)⟩
theorem lw_p5 : lw_okq (⟨"RowUnwinder$Reader", "beginFunction", "()V"⟩, 7) := ⟨⟨by decide +kernel, by decide +kernel⟩, List.mem_of_getElem? (i := 192) (by decide +kernel), List.mem_of_getElem? (i := 255) (by decide +kernel), List.mem_of_getElem? (i := 256) (by decide +kernel)⟩
theorem lw_p6 : lw_okq (⟨"RowUnwinder$Scribe", "writeProgram", "(I)V"⟩, 8) := ⟨⟨by decide +kernel, by decide +kernel⟩, List.mem_of_getElem? (i := 270) (by decide +kernel), List.mem_of_getElem? (i := 305) (by decide +kernel), List.mem_of_getElem? (i := 306) (by decide +kernel)⟩
theorem lw_p7 : lw_okq (⟨"RowUnwinder$Scribe", "writeOp", "(I)V"⟩, 8) := ⟨⟨by decide +kernel, by decide +kernel⟩, List.mem_of_getElem? (i := 270) (by decide +kernel), List.mem_of_getElem? (i := 313) (by decide +kernel), List.mem_of_getElem? (i := 314) (by decide +kernel)⟩
theorem lw_p8 : lw_okq (⟨"RowUnwinder$Scribe", "writeRowsTo", "(II)V"⟩, 8) := ⟨⟨by decide +kernel, by decide +kernel⟩, List.mem_of_getElem? (i := 270) (by decide +kernel), List.mem_of_getElem? (i := 322) (by decide +kernel), List.mem_of_getElem? (i := 323) (by decide +kernel)⟩
theorem lw_p9 : lw_okq (⟨"RowUnwinder$Scribe", "save", "(III)V"⟩, 8) := ⟨⟨by decide +kernel, by decide +kernel⟩, List.mem_of_getElem? (i := 270) (by decide +kernel), List.mem_of_getElem? (i := 330) (by decide +kernel), List.mem_of_getElem? (i := 331) (by decide +kernel)⟩
theorem lw_p10 : lw_okq (⟨"RowUnwinder$Scribe", "free", "(I)V"⟩, 8) := ⟨⟨by decide +kernel, by decide +kernel⟩, List.mem_of_getElem? (i := 270) (by decide +kernel), List.mem_of_getElem? (i := 339) (by decide +kernel), List.mem_of_getElem? (i := 340) (by decide +kernel)⟩
theorem lw_p11 : lw_okq (⟨"RowUnwinder$Scribe", "rememberOrGoBack", "(I)V"⟩, 8) := ⟨⟨by decide +kernel, by decide +kernel⟩, List.mem_of_getElem? (i := 270) (by decide +kernel), List.mem_of_getElem? (i := 343) (by decide +kernel), List.mem_of_getElem? (i := 344) (by decide +kernel)⟩
theorem lw_p12 : lw_okq (⟨"RowUnwinder$Scribe", "writePads", "(I)V"⟩, 8) := ⟨⟨by decide +kernel, by decide +kernel⟩, List.mem_of_getElem? (i := 270) (by decide +kernel), List.mem_of_getElem? (i := 350) (by decide +kernel), List.mem_of_getElem? (i := 351) (by decide +kernel)⟩
theorem lw_p13 : lw_okq (⟨"RowUnwinder", "isFunction", "(I)Z"⟩, 8) := ⟨⟨by decide +kernel, by decide +kernel⟩, List.mem_of_getElem? (i := 14) (by decide +kernel), List.mem_of_getElem? (i := 371) (by decide +kernel), List.mem_of_getElem? (i := 372) (by decide +kernel)⟩
theorem lw_p14 : lw_okq (⟨"RowUnwinder", "isPad", "(II)Z"⟩, 8) := ⟨⟨by decide +kernel, by decide +kernel⟩, List.mem_of_getElem? (i := 14) (by decide +kernel), List.mem_of_getElem? (i := 384) (by decide +kernel), List.mem_of_getElem? (i := 385) (by decide +kernel)⟩
theorem lw_p15 : lw_okq (⟨"RowUnwinder$Sights", "canBe", "(III)Z"⟩, 4) := ⟨⟨by decide +kernel, by decide +kernel⟩, List.mem_of_getElem? (i := 58) (by decide +kernel), List.mem_of_getElem? (i := 395) (by decide +kernel), List.mem_of_getElem? (i := 396) (by decide +kernel)⟩
def lw_privs_1 : List (MethodName × Nat) := [(⟨"RowUnwinder$Reader", "takesOp", "(I)Z"⟩, 7), (⟨"RowUnwinder$Reader", "takesOpLetter", "(I)Z"⟩, 7), (⟨"RowUnwinder$Reader", "takesFarther", "(I)Z"⟩, 7), (⟨"RowUnwinder$Reader", "takesDigit", "(IIII)Z"⟩, 7), (⟨"RowUnwinder$Reader", "takesBetweenPads", "(I)Z"⟩, 7), (⟨"RowUnwinder$Reader", "beginFunction", "()V"⟩, 7), (⟨"RowUnwinder$Scribe", "writeProgram", "(I)V"⟩, 8), (⟨"RowUnwinder$Scribe", "writeOp", "(I)V"⟩, 8), (⟨"RowUnwinder$Scribe", "writeRowsTo", "(II)V"⟩, 8), (⟨"RowUnwinder$Scribe", "save", "(III)V"⟩, 8), (⟨"RowUnwinder$Scribe", "free", "(I)V"⟩, 8), (⟨"RowUnwinder$Scribe", "rememberOrGoBack", "(I)V"⟩, 8), (⟨"RowUnwinder$Scribe", "writePads", "(I)V"⟩, 8), (⟨"RowUnwinder", "isFunction", "(I)Z"⟩, 8), (⟨"RowUnwinder", "isPad", "(II)Z"⟩, 8), (⟨"RowUnwinder$Sights", "canBe", "(III)Z"⟩, 4)]
theorem lw_r1 : ∀ q ∈ lw_privs_1, lw_okq q := List.forall_mem_cons.mpr ⟨lw_p0, List.forall_mem_cons.mpr ⟨lw_p1, List.forall_mem_cons.mpr ⟨lw_p2, List.forall_mem_cons.mpr ⟨lw_p3, List.forall_mem_cons.mpr ⟨lw_p4, List.forall_mem_cons.mpr ⟨lw_p5, List.forall_mem_cons.mpr ⟨lw_p6, List.forall_mem_cons.mpr ⟨lw_p7, List.forall_mem_cons.mpr ⟨lw_p8, List.forall_mem_cons.mpr ⟨lw_p9, List.forall_mem_cons.mpr ⟨lw_p10, List.forall_mem_cons.mpr ⟨lw_p11, List.forall_mem_cons.mpr ⟨lw_p12, List.forall_mem_cons.mpr ⟨lw_p13, List.forall_mem_cons.mpr ⟨lw_p14, List.forall_mem_cons.mpr ⟨lw_p15, fun _ h => absurd h List.not_mem_nil⟩⟩⟩⟩⟩⟩⟩⟩⟩⟩⟩⟩⟩⟩⟩⟩
theorem lw_p16 : lw_okq (⟨"RowUnwinder$Machine", "behindBack", "(III)I"⟩, 9) := ⟨⟨by decide +kernel, by decide +kernel⟩, List.mem_of_getElem? (i := 78) (by decide +kernel), List.mem_of_getElem? (i := 431) (by decide +kernel), List.mem_of_getElem? (i := 432) (by decide +kernel)⟩
theorem lw_p17 : lw_okq (⟨"RowUnwinder", "beginDoing", "()V"⟩, 8) := ⟨⟨by decide +kernel, by decide +kernel⟩, List.mem_of_getElem? (i := 14) (by decide +kernel), List.mem_of_getElem? (i := 444) (by decide +kernel), List.mem_of_getElem? (i := 445) (by decide +kernel)⟩
theorem lw_p18 : lw_okq (⟨"RowUnwinder$Machine", "saveAtLatest", "()V"⟩, 9) := ⟨⟨by decide +kernel, by decide +kernel⟩, List.mem_of_getElem? (i := 78) (by decide +kernel), List.mem_of_getElem? (i := 469) (by decide +kernel), List.mem_of_getElem? (i := 470) (by decide +kernel)⟩
theorem lw_p19 : lw_okq (⟨"RowUnwinder", "hasText", "()Z"⟩, 8) := ⟨⟨by decide +kernel, by decide +kernel⟩, List.mem_of_getElem? (i := 14) (by decide +kernel), List.mem_of_getElem? (i := 505) (by decide +kernel), List.mem_of_getElem? (i := 506) (by decide +kernel)⟩
theorem lw_p20 : lw_okq (⟨"RowUnwinder$Machine", "deedAt", "(III)I"⟩, 9) := ⟨⟨by decide +kernel, by decide +kernel⟩, List.mem_of_getElem? (i := 78) (by decide +kernel), List.mem_of_getElem? (i := 518) (by decide +kernel), List.mem_of_getElem? (i := 519) (by decide +kernel)⟩
theorem lw_p21 : lw_okq (⟨"RowUnwinder$Machine", "finishAtLatest", "(II)V"⟩, 9) := ⟨⟨by decide +kernel, by decide +kernel⟩, List.mem_of_getElem? (i := 78) (by decide +kernel), List.mem_of_getElem? (i := 527) (by decide +kernel), List.mem_of_getElem? (i := 528) (by decide +kernel)⟩
theorem lw_p22 : lw_okq (⟨"RowUnwinder$Draws", "throwDrawn", "(LRowUnwinder$Machine;)Z"⟩, 1) := ⟨⟨by decide +kernel, by decide +kernel⟩, List.mem_of_getElem? (i := 559) (by decide +kernel), List.mem_of_getElem? (i := 585) (by decide +kernel), List.mem_of_getElem? (i := 586) (by decide +kernel)⟩
theorem lw_p23 : lw_okq (⟨"RowUnwinder$Code", "isAnythingSaved", "(II)Z"⟩, 6) := ⟨⟨by decide +kernel, by decide +kernel⟩, List.mem_of_getElem? (i := 80) (by decide +kernel), List.mem_of_getElem? (i := 639) (by decide +kernel), List.mem_of_getElem? (i := 640) (by decide +kernel)⟩
def lw_privs_2 : List (MethodName × Nat) := [(⟨"RowUnwinder$Machine", "behindBack", "(III)I"⟩, 9), (⟨"RowUnwinder", "beginDoing", "()V"⟩, 8), (⟨"RowUnwinder$Machine", "saveAtLatest", "()V"⟩, 9), (⟨"RowUnwinder", "hasText", "()Z"⟩, 8), (⟨"RowUnwinder$Machine", "deedAt", "(III)I"⟩, 9), (⟨"RowUnwinder$Machine", "finishAtLatest", "(II)V"⟩, 9), (⟨"RowUnwinder$Draws", "throwDrawn", "(LRowUnwinder$Machine;)Z"⟩, 1), (⟨"RowUnwinder$Code", "isAnythingSaved", "(II)Z"⟩, 6)]
theorem lw_r2 : ∀ q ∈ lw_privs_2, lw_okq q := List.forall_mem_cons.mpr ⟨lw_p16, List.forall_mem_cons.mpr ⟨lw_p17, List.forall_mem_cons.mpr ⟨lw_p18, List.forall_mem_cons.mpr ⟨lw_p19, List.forall_mem_cons.mpr ⟨lw_p20, List.forall_mem_cons.mpr ⟨lw_p21, List.forall_mem_cons.mpr ⟨lw_p22, List.forall_mem_cons.mpr ⟨lw_p23, fun _ h => absurd h List.not_mem_nil⟩⟩⟩⟩⟩⟩⟩⟩
def lw_privs : List (MethodName × Nat) := lw_privs_1 ++ (lw_privs_2)
def lw_tbl : List Cond := k2_sels lw_privs ++ tables_1
theorem lw_privs_ok : ∀ q ∈ lw_privs, lw_okq q := by
  show ∀ q ∈ lw_privs_1 ++ (lw_privs_2), lw_okq q
  exact List.forall_mem_append.mpr ⟨lw_r1, lw_r2⟩
def RX0 : String := "RowUnwinder$Code"
def TX0 : u_T := fun k => match k with
  | 0 => ("RowUnwinder$Code", "functions", "I", false)
  | 1 => ("RowUnwinder$Code", "rows", "[I", true)
  | 2 => ("RowUnwinder$Code", "saves", "[I", true)
  | 3 => ("RowUnwinder$Code", "saveCounts", "[I", true)
  | 4 => ("RowUnwinder$Code", "pads", "[I", true)
  | _ => ("RowUnwinder$Code", "padCounts", "[I", true)
def tyX0 : Nat → FieldType := fun k => match k with
  | 0 => .int
  | 1 => .array .int
  | 2 => .array .int
  | 3 => .array .int
  | 4 => .array .int
  | _ => .array .int
abbrev wsX00 : List Cond := u_ws RX0 TX0 6
theorem nmX0 : ∀ a, a < 6 → ∀ b, b < 6 → a ≠ b → (TX0 a).2.1 ≠ (TX0 b).2.1 := by decide +kernel
theorem tyX0_ok : ∀ k, k < 6 → parseFieldDescriptor (TX0 k).2.2.1 = some (tyX0 k) := by decide +kernel
abbrev cX0_init : ByteArray := prog_2_method_1_code
def yX0_init : MethodName := ⟨RX0, "<init>", "()V"⟩
abbrev cX0_rowPart : ByteArray := prog_2_method_2_code
def yX0_rowPart : MethodName := ⟨RX0, "rowPart", "(III)I"⟩
abbrev cX0_writeRowPart : ByteArray := prog_2_method_3_code
def yX0_writeRowPart : MethodName := ⟨RX0, "writeRowPart", "(IIII)V"⟩
abbrev cX0_padCount : ByteArray := prog_2_method_4_code
def yX0_padCount : MethodName := ⟨RX0, "padCount", "(I)I"⟩
abbrev cX0_writePadCount : ByteArray := prog_2_method_5_code
def yX0_writePadCount : MethodName := ⟨RX0, "writePadCount", "(II)V"⟩
abbrev cX0_padPart : ByteArray := prog_2_method_6_code
def yX0_padPart : MethodName := ⟨RX0, "padPart", "(III)I"⟩
abbrev cX0_writePadPart : ByteArray := prog_2_method_7_code
def yX0_writePadPart : MethodName := ⟨RX0, "writePadPart", "(IIII)V"⟩
abbrev cX0_saveCount : ByteArray := prog_2_method_8_code
def yX0_saveCount : MethodName := ⟨RX0, "saveCount", "(I)I"⟩
abbrev cX0_saveAddress : ByteArray := prog_2_method_9_code
def yX0_saveAddress : MethodName := ⟨RX0, "saveAddress", "(II)I"⟩
abbrev cX0_saveRegister : ByteArray := prog_2_method_10_code
def yX0_saveRegister : MethodName := ⟨RX0, "saveRegister", "(II)I"⟩
abbrev cX0_saveCell : ByteArray := prog_2_method_11_code
def yX0_saveCell : MethodName := ⟨RX0, "saveCell", "(II)I"⟩
abbrev cX0_addSave : ByteArray := prog_2_method_12_code
def yX0_addSave : MethodName := ⟨RX0, "addSave", "(IIII)V"⟩
abbrev cX0_countPads : ByteArray := prog_2_method_13_code
def yX0_countPads : MethodName := ⟨RX0, "countPads", "()I"⟩
abbrev cX0_countSavingAddresses : ByteArray := prog_2_method_14_code
def yX0_countSavingAddresses : MethodName := ⟨RX0, "countSavingAddresses", "()I"⟩
abbrev cX0_isAnythingSaved : ByteArray := prog_2_method_15_code
def yX0_isAnythingSaved : MethodName := ⟨RX0, "isAnythingSaved", "(II)Z"⟩
def RX1 : String := "RowUnwinder$Draws"
def TX1 : u_T := fun k => match k with
  | _ => ("RowUnwinder$Draws", "seed", "J", false)
def tyX1 : Nat → FieldType := fun k => match k with
  | _ => .long
abbrev wsX10 : List Cond := u_ws RX1 TX1 1
theorem nmX1 : ∀ a, a < 1 → ∀ b, b < 1 → a ≠ b → (TX1 a).2.1 ≠ (TX1 b).2.1 := by decide +kernel
theorem tyX1_ok : ∀ k, k < 1 → parseFieldDescriptor (TX1 k).2.2.1 = some (tyX1 k) := by decide +kernel
abbrev cX1_init : ByteArray := prog_3_method_1_code
def yX1_init : MethodName := ⟨RX1, "<init>", "(I)V"⟩
abbrev cX1_draw : ByteArray := prog_3_method_2_code
def yX1_draw : MethodName := ⟨RX1, "draw", "(I)I"⟩
abbrev cX1_doOne : ByteArray := prog_3_method_3_code
def yX1_doOne : MethodName := ⟨RX1, "doOne", "(LRowUnwinder$Machine;)Z"⟩
abbrev cX1_throwDrawn : ByteArray := prog_3_method_4_code
def yX1_throwDrawn : MethodName := ⟨RX1, "throwDrawn", "(LRowUnwinder$Machine;)Z"⟩
def RX2 : String := "RowUnwinder$History"
def TX2 : u_T := fun k => match k with
  | 0 => ("RowUnwinder$History", "past", "[LRowUnwinder$Machine;", true)
  | 1 => ("RowUnwinder$History", "next", "I", false)
  | _ => ("RowUnwinder$History", "many", "I", false)
def tyX2 : Nat → FieldType := fun k => match k with
  | 0 => .array (.object "RowUnwinder$Machine")
  | 1 => .int
  | _ => .int
abbrev wsX20 : List Cond := u_ws RX2 TX2 3
theorem nmX2 : ∀ a, a < 3 → ∀ b, b < 3 → a ≠ b → (TX2 a).2.1 ≠ (TX2 b).2.1 := by decide +kernel
theorem tyX2_ok : ∀ k, k < 3 → parseFieldDescriptor (TX2 k).2.2.1 = some (tyX2 k) := by decide +kernel
abbrev cX2_init : ByteArray := prog_4_method_1_code
def yX2_init : MethodName := ⟨RX2, "<init>", "()V"⟩
abbrev cX2_empty : ByteArray := prog_4_method_2_code
def yX2_empty : MethodName := ⟨RX2, "empty", "()V"⟩
abbrev cX2_add : ByteArray := prog_4_method_3_code
def yX2_add : MethodName := ⟨RX2, "add", "(LRowUnwinder$Machine;)V"⟩
def RX3 : String := "RowUnwinder$Machine"
def TX3 : u_T := fun k => match k with
  | 0 => ("RowUnwinder$Machine", "code", "LRowUnwinder$Code;", true)
  | 1 => ("RowUnwinder$Machine", "kinds", "[I", true)
  | 2 => ("RowUnwinder$Machine", "registers", "[I", true)
  | 3 => ("RowUnwinder$Machine", "functions", "[I", true)
  | 4 => ("RowUnwinder$Machine", "addresses", "[I", true)
  | 5 => ("RowUnwinder$Machine", "cells", "[I", true)
  | 6 => ("RowUnwinder$Machine", "finished", "[I", true)
  | 7 => ("RowUnwinder$Machine", "frames", "I", false)
  | _ => ("RowUnwinder$Machine", "finishers", "I", false)
def tyX3 : Nat → FieldType := fun k => match k with
  | 0 => .object "RowUnwinder$Code"
  | 1 => .array .int
  | 2 => .array .int
  | 3 => .array .int
  | 4 => .array .int
  | 5 => .array .int
  | 6 => .array .int
  | 7 => .int
  | _ => .int
abbrev wsX30 : List Cond := u_ws RX3 TX3 9
theorem nmX3 : ∀ a, a < 9 → ∀ b, b < 9 → a ≠ b → (TX3 a).2.1 ≠ (TX3 b).2.1 := by decide +kernel
theorem tyX3_ok : ∀ k, k < 9 → parseFieldDescriptor (TX3 k).2.2.1 = some (tyX3 k) := by decide +kernel
abbrev cX3_init : ByteArray := prog_5_method_1_code
def yX3_init : MethodName := ⟨RX3, "<init>", "(LRowUnwinder$Code;)V"⟩
abbrev cX3_init_ : ByteArray := prog_5_method_2_code
def yX3_init_ : MethodName := ⟨RX3, "<init>", "(LRowUnwinder$Machine;)V"⟩
abbrev cX3_levelOf : ByteArray := prog_5_method_3_code
def yX3_levelOf : MethodName := ⟨RX3, "levelOf", "(I)I"⟩
abbrev cX3_latestAddress : ByteArray := prog_5_method_4_code
def yX3_latestAddress : MethodName := ⟨RX3, "latestAddress", "()I"⟩
abbrev cX3_enter : ByteArray := prog_5_method_5_code
def yX3_enter : MethodName := ⟨RX3, "enter", "(I)V"⟩
abbrev cX3_step : ByteArray := prog_5_method_6_code
def yX3_step : MethodName := ⟨RX3, "step", "()V"⟩
abbrev cX3_saveAtLatest : ByteArray := prog_5_method_7_code
def yX3_saveAtLatest : MethodName := ⟨RX3, "saveAtLatest", "()V"⟩
abbrev cX3_leave : ByteArray := prog_5_method_8_code
def yX3_leave : MethodName := ⟨RX3, "leave", "()V"⟩
abbrev cX3_behindBack : ByteArray := prog_5_method_9_code
def yX3_behindBack : MethodName := ⟨RX3, "behindBack", "(III)I"⟩
abbrev cX3_callerOf : ByteArray := prog_5_method_10_code
def yX3_callerOf : MethodName := ⟨RX3, "callerOf", "(II)I"⟩
abbrev cX3_catcherOf : ByteArray := prog_5_method_11_code
def yX3_catcherOf : MethodName := ⟨RX3, "catcherOf", "(I)I"⟩
abbrev cX3_deedAt : ByteArray := prog_5_method_12_code
def yX3_deedAt : MethodName := ⟨RX3, "deedAt", "(III)I"⟩
abbrev cX3_countFinishing : ByteArray := prog_5_method_13_code
def yX3_countFinishing : MethodName := ⟨RX3, "countFinishing", "(II)I"⟩
abbrev cX3_unwindTo : ByteArray := prog_5_method_14_code
def yX3_unwindTo : MethodName := ⟨RX3, "unwindTo", "(II)V"⟩
abbrev cX3_finishAtLatest : ByteArray := prog_5_method_15_code
def yX3_finishAtLatest : MethodName := ⟨RX3, "finishAtLatest", "(II)V"⟩
def RX4 : String := "RowUnwinder$Page"
def TX4 : u_T := fun k => match k with
  | 0 => ("RowUnwinder$Page", "codes", "[I", true)
  | _ => ("RowUnwinder$Page", "length", "I", false)
def tyX4 : Nat → FieldType := fun k => match k with
  | 0 => .array .int
  | _ => .int
abbrev wsX40 : List Cond := u_ws RX4 TX4 2
theorem nmX4 : ∀ a, a < 2 → ∀ b, b < 2 → a ≠ b → (TX4 a).2.1 ≠ (TX4 b).2.1 := by decide +kernel
theorem tyX4_ok : ∀ k, k < 2 → parseFieldDescriptor (TX4 k).2.2.1 = some (tyX4 k) := by decide +kernel
abbrev cX4_init : ByteArray := prog_6_method_1_code
def yX4_init : MethodName := ⟨RX4, "<init>", "()V"⟩
abbrev cX4_write : ByteArray := prog_6_method_2_code
def yX4_write : MethodName := ⟨RX4, "write", "(I)V"⟩
abbrev cX4_codeAt : ByteArray := prog_6_method_3_code
def yX4_codeAt : MethodName := ⟨RX4, "codeAt", "(I)I"⟩
abbrev cX4_digitAt : ByteArray := prog_6_method_4_code
def yX4_digitAt : MethodName := ⟨RX4, "digitAt", "(I)I"⟩
def RX5 : String := "RowUnwinder$Reader"
def TX5 : u_T := fun k => match k with
  | 0 => ("RowUnwinder$Reader", "due", "I", false)
  | 1 => ("RowUnwinder$Reader", "functions", "I", false)
  | 2 => ("RowUnwinder$Reader", "ops", "I", false)
  | 3 => ("RowUnwinder$Reader", "address", "I", false)
  | 4 => ("RowUnwinder$Reader", "remembered", "I", false)
  | 5 => ("RowUnwinder$Reader", "pads", "I", false)
  | _ => ("RowUnwinder$Reader", "from", "I", false)
def tyX5 : Nat → FieldType := fun k => match k with
  | 0 => .int
  | 1 => .int
  | 2 => .int
  | 3 => .int
  | 4 => .int
  | 5 => .int
  | _ => .int
abbrev wsX50 : List Cond := u_ws RX5 TX5 7
theorem nmX5 : ∀ a, a < 7 → ∀ b, b < 7 → a ≠ b → (TX5 a).2.1 ≠ (TX5 b).2.1 := by decide +kernel
theorem tyX5_ok : ∀ k, k < 7 → parseFieldDescriptor (TX5 k).2.2.1 = some (tyX5 k) := by decide +kernel
abbrev cX5_init : ByteArray := prog_7_method_1_code
def yX5_init : MethodName := ⟨RX5, "<init>", "()V"⟩
abbrev cX5_firstFault : ByteArray := prog_7_method_2_code
def yX5_firstFault : MethodName := ⟨RX5, "firstFault", "(LRowUnwinder$Page;)I"⟩
abbrev cX5_mayEnd : ByteArray := prog_7_method_3_code
def yX5_mayEnd : MethodName := ⟨RX5, "mayEnd", "()Z"⟩
abbrev cX5_takes : ByteArray := prog_7_method_4_code
def yX5_takes : MethodName := ⟨RX5, "takes", "(I)Z"⟩
abbrev cX5_takesOp : ByteArray := prog_7_method_5_code
def yX5_takesOp : MethodName := ⟨RX5, "takesOp", "(I)Z"⟩
abbrev cX5_takesOpLetter : ByteArray := prog_7_method_6_code
def yX5_takesOpLetter : MethodName := ⟨RX5, "takesOpLetter", "(I)Z"⟩
abbrev cX5_takesFarther : ByteArray := prog_7_method_7_code
def yX5_takesFarther : MethodName := ⟨RX5, "takesFarther", "(I)Z"⟩
abbrev cX5_takesDigit : ByteArray := prog_7_method_8_code
def yX5_takesDigit : MethodName := ⟨RX5, "takesDigit", "(IIII)Z"⟩
abbrev cX5_takesBetweenPads : ByteArray := prog_7_method_9_code
def yX5_takesBetweenPads : MethodName := ⟨RX5, "takesBetweenPads", "(I)Z"⟩
abbrev cX5_beginFunction : ByteArray := prog_7_method_10_code
def yX5_beginFunction : MethodName := ⟨RX5, "beginFunction", "()V"⟩
def RX6 : String := "RowUnwinder$Scribe"
def TX6 : u_T := fun k => match k with
  | 0 => ("RowUnwinder$Scribe", "page", "LRowUnwinder$Page;", true)
  | 1 => ("RowUnwinder$Scribe", "code", "LRowUnwinder$Code;", true)
  | 2 => ("RowUnwinder$Scribe", "saved", "[I", true)
  | 3 => ("RowUnwinder$Scribe", "remembered", "[I", true)
  | 4 => ("RowUnwinder$Scribe", "depth", "I", false)
  | 5 => ("RowUnwinder$Scribe", "place", "I", false)
  | 6 => ("RowUnwinder$Scribe", "address", "I", false)
  | _ => ("RowUnwinder$Scribe", "opAddress", "I", false)
def tyX6 : Nat → FieldType := fun k => match k with
  | 0 => .object "RowUnwinder$Page"
  | 1 => .object "RowUnwinder$Code"
  | 2 => .array .int
  | 3 => .array .int
  | 4 => .int
  | 5 => .int
  | 6 => .int
  | _ => .int
abbrev wsX60 : List Cond := u_ws RX6 TX6 8
theorem nmX6 : ∀ a, a < 8 → ∀ b, b < 8 → a ≠ b → (TX6 a).2.1 ≠ (TX6 b).2.1 := by decide +kernel
theorem tyX6_ok : ∀ k, k < 8 → parseFieldDescriptor (TX6 k).2.2.1 = some (tyX6 k) := by decide +kernel
abbrev cX6_init : ByteArray := prog_8_method_1_code
def yX6_init : MethodName := ⟨RX6, "<init>", "(LRowUnwinder$Page;LRowUnwinder$Code;)V"⟩
abbrev cX6_writeText : ByteArray := prog_8_method_2_code
def yX6_writeText : MethodName := ⟨RX6, "writeText", "()V"⟩
abbrev cX6_writeProgram : ByteArray := prog_8_method_3_code
def yX6_writeProgram : MethodName := ⟨RX6, "writeProgram", "(I)V"⟩
abbrev cX6_writeOp : ByteArray := prog_8_method_4_code
def yX6_writeOp : MethodName := ⟨RX6, "writeOp", "(I)V"⟩
abbrev cX6_save : ByteArray := prog_8_method_5_code
def yX6_save : MethodName := ⟨RX6, "save", "(III)V"⟩
abbrev cX6_free : ByteArray := prog_8_method_6_code
def yX6_free : MethodName := ⟨RX6, "free", "(I)V"⟩
abbrev cX6_rememberOrGoBack : ByteArray := prog_8_method_7_code
def yX6_rememberOrGoBack : MethodName := ⟨RX6, "rememberOrGoBack", "(I)V"⟩
abbrev cX6_writeRowsTo : ByteArray := prog_8_method_8_code
def yX6_writeRowsTo : MethodName := ⟨RX6, "writeRowsTo", "(II)V"⟩
abbrev cX6_writePads : ByteArray := prog_8_method_9_code
def yX6_writePads : MethodName := ⟨RX6, "writePads", "(I)V"⟩
def RX7 : String := "RowUnwinder$Sights"
def TX7 : u_T := fun k => match k with
  | 0 => ("RowUnwinder$Sights", "slots", "[I", true)
  | 1 => ("RowUnwinder$Sights", "types", "[I", true)
  | 2 => ("RowUnwinder$Sights", "deeds", "[I", true)
  | _ => ("RowUnwinder$Sights", "many", "I", false)
def tyX7 : Nat → FieldType := fun k => match k with
  | 0 => .array .int
  | 1 => .array .int
  | 2 => .array .int
  | _ => .int
abbrev wsX70 : List Cond := u_ws RX7 TX7 4
theorem nmX7 : ∀ a, a < 4 → ∀ b, b < 4 → a ≠ b → (TX7 a).2.1 ≠ (TX7 b).2.1 := by decide +kernel
theorem tyX7_ok : ∀ k, k < 4 → parseFieldDescriptor (TX7 k).2.2.1 = some (tyX7 k) := by decide +kernel
abbrev cX7_init : ByteArray := prog_9_method_1_code
def yX7_init : MethodName := ⟨RX7, "<init>", "()V"⟩
abbrev cX7_sortsOf : ByteArray := prog_9_method_3_code
def yX7_sortsOf : MethodName := ⟨RX7, "sortsOf", "(II)I"⟩
abbrev cX7_canBe : ByteArray := prog_9_method_4_code
def yX7_canBe : MethodName := ⟨RX7, "canBe", "(III)Z"⟩
def RX8 : String := "RowUnwinder"
def TX8 : u_T := fun k => match k with
  | 0 => ("RowUnwinder", "page", "LRowUnwinder$Page;", true)
  | 1 => ("RowUnwinder", "history", "LRowUnwinder$History;", true)
  | 2 => ("RowUnwinder", "keptHistory", "LRowUnwinder$History;", true)
  | 3 => ("RowUnwinder", "sights", "LRowUnwinder$Sights;", true)
  | 4 => ("RowUnwinder", "keptSights", "LRowUnwinder$Sights;", true)
  | 5 => ("RowUnwinder", "machine", "LRowUnwinder$Machine;", false)
  | 6 => ("RowUnwinder", "kept", "LRowUnwinder$Machine;", false)
  | _ => ("RowUnwinder", "textsRead", "I", false)
def tyX8 : Nat → FieldType := fun k => match k with
  | 0 => .object "RowUnwinder$Page"
  | 1 => .object "RowUnwinder$History"
  | 2 => .object "RowUnwinder$History"
  | 3 => .object "RowUnwinder$Sights"
  | 4 => .object "RowUnwinder$Sights"
  | 5 => .object "RowUnwinder$Machine"
  | 6 => .object "RowUnwinder$Machine"
  | _ => .int
abbrev wsX80 : List Cond := u_ws RX8 TX8 8
theorem nmX8 : ∀ a, a < 8 → ∀ b, b < 8 → a ≠ b → (TX8 a).2.1 ≠ (TX8 b).2.1 := by decide +kernel
theorem tyX8_ok : ∀ k, k < 8 → parseFieldDescriptor (TX8 k).2.2.1 = some (tyX8 k) := by decide +kernel
abbrev cX8_init : ByteArray := prog_1_method_1_code
def yX8_init : MethodName := ⟨RX8, "<init>", "()V"⟩
abbrev cX8_letter : ByteArray := prog_1_method_2_code
def yX8_letter : MethodName := ⟨RX8, "letter", "(I)I"⟩
abbrev cX8_fault : ByteArray := prog_1_method_4_code
def yX8_fault : MethodName := ⟨RX8, "fault", "()I"⟩
abbrev cX8_text : ByteArray := prog_1_method_5_code
def yX8_text : MethodName := ⟨RX8, "text", "()I"⟩
abbrev cX8_row : ByteArray := prog_1_method_6_code
def yX8_row : MethodName := ⟨RX8, "row", "(III)I"⟩
abbrev cX8_pad : ByteArray := prog_1_method_7_code
def yX8_pad : MethodName := ⟨RX8, "pad", "(III)I"⟩
abbrev cX8_as : ByteArray := prog_1_method_8_code
def yX8_as : MethodName := ⟨RX8, "as", "(III)I"⟩
abbrev cX8_frame : ByteArray := prog_1_method_9_code
def yX8_frame : MethodName := ⟨RX8, "frame", "(II)I"⟩
abbrev cX8_register : ByteArray := prog_1_method_10_code
def yX8_register : MethodName := ⟨RX8, "register", "(I)I"⟩
abbrev cX8_call : ByteArray := prog_1_method_11_code
def yX8_call : MethodName := ⟨RX8, "call", "(I)I"⟩
abbrev cX8_go : ByteArray := prog_1_method_12_code
def yX8_go : MethodName := ⟨RX8, "go", "(I)I"⟩
abbrev cX8_set : ByteArray := prog_1_method_13_code
def yX8_set : MethodName := ⟨RX8, "set", "(II)I"⟩
abbrev cX8_back : ByteArray := prog_1_method_14_code
def yX8_back : MethodName := ⟨RX8, "back", "()I"⟩
abbrev cX8_raise : ByteArray := prog_1_method_15_code
def yX8_raise : MethodName := ⟨RX8, "raise", "(I)I"⟩
abbrev cX8_change : ByteArray := prog_1_method_16_code
def yX8_change : MethodName := ⟨RX8, "change", "(III)I"⟩
abbrev cX8_search : ByteArray := prog_1_method_18_code
def yX8_search : MethodName := ⟨RX8, "search", "(II)I"⟩
abbrev cX8_loose : ByteArray := prog_1_method_19_code
def yX8_loose : MethodName := ⟨RX8, "loose", "()I"⟩
abbrev cX8_finished : ByteArray := prog_1_method_20_code
def yX8_finished : MethodName := ⟨RX8, "finished", "(I)I"⟩
abbrev cX8_same : ByteArray := prog_1_method_21_code
def yX8_same : MethodName := ⟨RX8, "same", "(II)I"⟩
abbrev cX8_drawn : ByteArray := prog_1_method_24_code
def yX8_drawn : MethodName := ⟨RX8, "drawn", "(III)I"⟩
abbrev cX8_count : ByteArray := prog_1_method_27_code
def yX8_count : MethodName := ⟨RX8, "count", "(I)I"⟩
abbrev cX8_hasText : ByteArray := prog_1_method_32_code
def yX8_hasText : MethodName := ⟨RX8, "hasText", "()Z"⟩
abbrev cX8_isFunction : ByteArray := prog_1_method_33_code
def yX8_isFunction : MethodName := ⟨RX8, "isFunction", "(I)Z"⟩
abbrev cX8_isPad : ByteArray := prog_1_method_34_code
def yX8_isPad : MethodName := ⟨RX8, "isPad", "(II)Z"⟩
abbrev cX8_beginDoing : ByteArray := prog_1_method_35_code
def yX8_beginDoing : MethodName := ⟨RX8, "beginDoing", "()V"⟩
abbrev cX8_isBelow : ByteArray := prog_1_method_36_code
def yX8_isBelow : MethodName := ⟨RX8, "isBelow", "(II)Z"⟩
abbrev cX8_slot : ByteArray := prog_1_method_37_code
def yX8_slot : MethodName := ⟨RX8, "slot", "(II)I"⟩
abbrev cX8_kindOfLetter : ByteArray := prog_1_method_38_code
def yX8_kindOfLetter : MethodName := ⟨RX8, "kindOfLetter", "(I)I"⟩
abbrev cX8_isOfKind : ByteArray := prog_1_method_39_code
def yX8_isOfKind : MethodName := ⟨RX8, "isOfKind", "(II)Z"⟩
abbrev cX8_deedOf : ByteArray := prog_1_method_40_code
def yX8_deedOf : MethodName := ⟨RX8, "deedOf", "(III)I"⟩
abbrev cX8_bestToThrow : ByteArray := prog_1_method_41_code
def yX8_bestToThrow : MethodName := ⟨RX8, "bestToThrow", "(II)I"⟩
abbrev cX8_leftAtWorst : ByteArray := prog_1_method_42_code
def yX8_leftAtWorst : MethodName := ⟨RX8, "leftAtWorst", "(III)I"⟩
def RX9 : String := "RowUnwinderModel"
def TX9 : u_T := fun k => match k with
  | _ => ("", "", "", false)
def tyX9 : Nat → FieldType := fun k => match k with
  | _ => .int
abbrev wsX90 : List Cond := u_ws RX9 TX9 0
theorem nmX9 : ∀ a, a < 0 → ∀ b, b < 0 → a ≠ b → (TX9 a).2.1 ≠ (TX9 b).2.1 := by decide +kernel
theorem tyX9_ok : ∀ k, k < 0 → parseFieldDescriptor (TX9 k).2.2.1 = some (tyX9 k) := by decide +kernel
def RJx8e188 : String := "java/lang/Cloneable"
def RJ9 : String := "java/lang/Math"
abbrev cJ9_max_7cf53 : ByteArray := prog_13_method_65_code
def yJ9_max_7cf53 : MethodName := ⟨RJ9, "max", "(II)I"⟩
abbrev cJ9_min_7cf53 : ByteArray := prog_13_method_69_code
def yJ9_min_7cf53 : MethodName := ⟨RJ9, "min", "(II)I"⟩
def RJ10 : String := "java/lang/System"
def RJ7 : String := "java/util/Arrays"
abbrev cJ7_fill_53178 : ByteArray := prog_15_method_103_code
def yJ7_fill_53178 : MethodName := ⟨RJ7, "fill", "([II)V"⟩
def RL : String := "RowUnwinderLaw"
abbrev cL_cell : ByteArray := method_2_code
def yL_cell : MethodName := ⟨RL, "cell", "([II)I"⟩
abbrev cL_at : ByteArray := method_3_code
def yL_at : MethodName := ⟨RL, "at", "(II)I"⟩
abbrev cL_codeText : ByteArray := method_4_code
def yL_codeText : MethodName := ⟨RL, "codeText", "([II[I[I[I)I"⟩
abbrev cL_letterOf : ByteArray := method_5_code
def yL_letterOf : MethodName := ⟨RL, "letterOf", "(I)I"⟩
abbrev cL_spell : ByteArray := method_6_code
def yL_spell : MethodName := ⟨RL, "spell", "(LRowUnwinder;[II)Z"⟩
abbrev cL_row : ByteArray := method_8_code
def yL_row : MethodName := ⟨RL, "row", "([I[III[I)V"⟩
abbrev cL_come : ByteArray := method_9_code
def yL_come : MethodName := ⟨RL, "come", "([I[I[I[II)V"⟩
abbrev cL_callNow : ByteArray := method_10_code
def yL_callNow : MethodName := ⟨RL, "callNow", "([I[I[I[II)V"⟩
abbrev cL_back : ByteArray := method_11_code
def yL_back : MethodName := ⟨RL, "back", "([I[I[II[I)V"⟩
abbrev cL_does : ByteArray := method_12_code
def yL_does : MethodName := ⟨RL, "does", "(III)I"⟩
abbrev cL_look : ByteArray := method_13_code
def yL_look : MethodName := ⟨RL, "look", "([I[I[I[I[II[I)V"⟩
abbrev cL_throwNow : ByteArray := method_14_code
def yL_throwNow : MethodName := ⟨RL, "throwNow", "([I[I[I[I[I)V"⟩
abbrev cL_stands : ByteArray := method_15_code
def yL_stands : MethodName := ⟨RL, "stands", "(LRowUnwinder;[I[I[I[I[I)Z"⟩
abbrev cL_machine : ByteArray := method_16_code
def yL_machine : MethodName := ⟨RL, "machine", "(LRowUnwinder;[I[I[I[I)Z"⟩
abbrev cL_copy : ByteArray := method_17_code
def yL_copy : MethodName := ⟨RL, "copy", "([I[II)V"⟩
abbrev cL_act : ByteArray := method_18_code
def yL_act : MethodName := ⟨RL, "act", "(LRowUnwinder;[I[I[I[I[I[II)Z"⟩
abbrev cL_law : ByteArray := code
def yL_law : MethodName := ⟨RL, "law", "([I)Z"⟩
abbrev cL_done : ByteArray := method_20_code
def yL_done : MethodName := ⟨RL, "done", "(LRowUnwinder;[I)Z"⟩
abbrev cL_search : ByteArray := method_21_code
def yL_search : MethodName := ⟨RL, "search", "(LRowUnwinder;[I[I[I[I[I)Z"⟩
abbrev cL_drawn : ByteArray := method_22_code
def yL_drawn : MethodName := ⟨RL, "drawn", "(LRowUnwinder;[I[I[I[I[III)Z"⟩
abbrev cL_after : ByteArray := method_23_code
def yL_after : MethodName := ⟨RL, "after", "(J)J"⟩
