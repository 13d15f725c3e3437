section
-- ===== PART A: goes FIRST, ahead of the names: the tables' words, and 'selects' of the private methods out of them =====
/-- a private method of a class that the tables say can be made, by its rows of tables_1 -/
def lw_okq (q : MethodName × Nat) : Prop := (q.1.cls ≠ "java/lang/invoke/MethodHandle" ∧ q.1.cls ≠ "java/lang/invoke/VarHandle") ∧ Cond.instantiable q.1.cls q.2 ∈ tables_1 ∧ Cond.privateMethod q.1 ∈ tables_1 ∧ Cond.instanceMethod q.1 ∈ tables_1
theorem lw_p0 : lw_okq (⟨"RowUnwinder$Reader", "takesOp", "(I)Z"⟩, 7) := ⟨⟨by decide +kernel, by decide +kernel⟩, List.mem_of_getElem? (i := 205) (by decide +kernel), List.mem_of_getElem? (i := 248) (by decide +kernel), List.mem_of_getElem? (i := 249) (by decide +kernel)⟩
theorem lw_p1 : lw_okq (⟨"RowUnwinder$Reader", "takesOpLetter", "(I)Z"⟩, 7) := ⟨⟨by decide +kernel, by decide +kernel⟩, List.mem_of_getElem? (i := 205) (by decide +kernel), List.mem_of_getElem? (i := 252) (by decide +kernel), List.mem_of_getElem? (i := 253) (by decide +kernel)⟩
theorem lw_p2 : lw_okq (⟨"RowUnwinder$Reader", "takesFarther", "(I)Z"⟩, 7) := ⟨⟨by decide +kernel, by decide +kernel⟩, List.mem_of_getElem? (i := 205) (by decide +kernel), List.mem_of_getElem? (i := 256) (by decide +kernel), List.mem_of_getElem? (i := 257) (by decide +kernel)⟩
theorem lw_p3 : lw_okq (⟨"RowUnwinder$Reader", "takesDigit", "(IIII)Z"⟩, 7) := ⟨⟨by decide +kernel, by decide +kernel⟩, List.mem_of_getElem? (i := 205) (by decide +kernel), List.mem_of_getElem? (i := 260) (by decide +kernel), List.mem_of_getElem? (i := 261) (by decide +kernel)⟩
theorem lw_p4 : lw_okq (⟨"RowUnwinder$Reader", "takesBetweenPads", "(I)Z"⟩, 7) := ⟨⟨by decide +kernel, by decide +kernel⟩, List.mem_of_getElem? (i := 205) (by decide +kernel), List.mem_of_getElem? (i := 264) (by decide +kernel), List.mem_of_getElem? (i := 265) (by decide +kernel)⟩
theorem lw_p5 : lw_okq (⟨"RowUnwinder$Reader", "beginFunction", "()V"⟩, 7) := ⟨⟨by decide +kernel, by decide +kernel⟩, List.mem_of_getElem? (i := 205) (by decide +kernel), List.mem_of_getElem? (i := 268) (by decide +kernel), List.mem_of_getElem? (i := 269) (by decide +kernel)⟩
theorem lw_p6 : lw_okq (⟨"RowUnwinder$Scribe", "writeProgram", "(I)V"⟩, 8) := ⟨⟨by decide +kernel, by decide +kernel⟩, List.mem_of_getElem? (i := 283) (by decide +kernel), List.mem_of_getElem? (i := 318) (by decide +kernel), List.mem_of_getElem? (i := 319) (by decide +kernel)⟩
theorem lw_p7 : lw_okq (⟨"RowUnwinder$Scribe", "writeOp", "(I)V"⟩, 8) := ⟨⟨by decide +kernel, by decide +kernel⟩, List.mem_of_getElem? (i := 283) (by decide +kernel), List.mem_of_getElem? (i := 326) (by decide +kernel), List.mem_of_getElem? (i := 327) (by decide +kernel)⟩
theorem lw_p8 : lw_okq (⟨"RowUnwinder$Scribe", "writeRowsTo", "(II)V"⟩, 8) := ⟨⟨by decide +kernel, by decide +kernel⟩, List.mem_of_getElem? (i := 283) (by decide +kernel), List.mem_of_getElem? (i := 335) (by decide +kernel), List.mem_of_getElem? (i := 336) (by decide +kernel)⟩
theorem lw_p9 : lw_okq (⟨"RowUnwinder$Scribe", "save", "(III)V"⟩, 8) := ⟨⟨by decide +kernel, by decide +kernel⟩, List.mem_of_getElem? (i := 283) (by decide +kernel), List.mem_of_getElem? (i := 343) (by decide +kernel), List.mem_of_getElem? (i := 344) (by decide +kernel)⟩
theorem lw_p10 : lw_okq (⟨"RowUnwinder$Scribe", "free", "(I)V"⟩, 8) := ⟨⟨by decide +kernel, by decide +kernel⟩, List.mem_of_getElem? (i := 283) (by decide +kernel), List.mem_of_getElem? (i := 352) (by decide +kernel), List.mem_of_getElem? (i := 353) (by decide +kernel)⟩
theorem lw_p11 : lw_okq (⟨"RowUnwinder$Scribe", "rememberOrGoBack", "(I)V"⟩, 8) := ⟨⟨by decide +kernel, by decide +kernel⟩, List.mem_of_getElem? (i := 283) (by decide +kernel), List.mem_of_getElem? (i := 356) (by decide +kernel), List.mem_of_getElem? (i := 357) (by decide +kernel)⟩
theorem lw_p12 : lw_okq (⟨"RowUnwinder$Scribe", "writePads", "(I)V"⟩, 8) := ⟨⟨by decide +kernel, by decide +kernel⟩, List.mem_of_getElem? (i := 283) (by decide +kernel), List.mem_of_getElem? (i := 363) (by decide +kernel), List.mem_of_getElem? (i := 364) (by decide +kernel)⟩
theorem lw_p13 : lw_okq (⟨"RowUnwinder", "isFunction", "(I)Z"⟩, 8) := ⟨⟨by decide +kernel, by decide +kernel⟩, List.mem_of_getElem? (i := 15) (by decide +kernel), List.mem_of_getElem? (i := 384) (by decide +kernel), List.mem_of_getElem? (i := 385) (by decide +kernel)⟩
theorem lw_p14 : lw_okq (⟨"RowUnwinder", "isPad", "(II)Z"⟩, 8) := ⟨⟨by decide +kernel, by decide +kernel⟩, List.mem_of_getElem? (i := 15) (by decide +kernel), List.mem_of_getElem? (i := 397) (by decide +kernel), List.mem_of_getElem? (i := 398) (by decide +kernel)⟩
theorem lw_p15 : lw_okq (⟨"RowUnwinder$Sights", "canBe", "(III)Z"⟩, 4) := ⟨⟨by decide +kernel, by decide +kernel⟩, List.mem_of_getElem? (i := 59) (by decide +kernel), List.mem_of_getElem? (i := 408) (by decide +kernel), List.mem_of_getElem? (i := 409) (by decide +kernel)⟩
def lw_privs_1 : List (MethodName × Nat) := [(⟨"RowUnwinder$Reader", "takesOp", "(I)Z"⟩, 7), (⟨"RowUnwinder$Reader", "takesOpLetter", "(I)Z"⟩, 7), (⟨"RowUnwinder$Reader", "takesFarther", "(I)Z"⟩, 7), (⟨"RowUnwinder$Reader", "takesDigit", "(IIII)Z"⟩, 7), (⟨"RowUnwinder$Reader", "takesBetweenPads", "(I)Z"⟩, 7), (⟨"RowUnwinder$Reader", "beginFunction", "()V"⟩, 7), (⟨"RowUnwinder$Scribe", "writeProgram", "(I)V"⟩, 8), (⟨"RowUnwinder$Scribe", "writeOp", "(I)V"⟩, 8), (⟨"RowUnwinder$Scribe", "writeRowsTo", "(II)V"⟩, 8), (⟨"RowUnwinder$Scribe", "save", "(III)V"⟩, 8), (⟨"RowUnwinder$Scribe", "free", "(I)V"⟩, 8), (⟨"RowUnwinder$Scribe", "rememberOrGoBack", "(I)V"⟩, 8), (⟨"RowUnwinder$Scribe", "writePads", "(I)V"⟩, 8), (⟨"RowUnwinder", "isFunction", "(I)Z"⟩, 8), (⟨"RowUnwinder", "isPad", "(II)Z"⟩, 8), (⟨"RowUnwinder$Sights", "canBe", "(III)Z"⟩, 4)]
theorem lw_r1 : ∀ q ∈ lw_privs_1, lw_okq q := List.forall_mem_cons.mpr ⟨lw_p0, List.forall_mem_cons.mpr ⟨lw_p1, List.forall_mem_cons.mpr ⟨lw_p2, List.forall_mem_cons.mpr ⟨lw_p3, List.forall_mem_cons.mpr ⟨lw_p4, List.forall_mem_cons.mpr ⟨lw_p5, List.forall_mem_cons.mpr ⟨lw_p6, List.forall_mem_cons.mpr ⟨lw_p7, List.forall_mem_cons.mpr ⟨lw_p8, List.forall_mem_cons.mpr ⟨lw_p9, List.forall_mem_cons.mpr ⟨lw_p10, List.forall_mem_cons.mpr ⟨lw_p11, List.forall_mem_cons.mpr ⟨lw_p12, List.forall_mem_cons.mpr ⟨lw_p13, List.forall_mem_cons.mpr ⟨lw_p14, List.forall_mem_cons.mpr ⟨lw_p15, fun _ h => absurd h List.not_mem_nil⟩⟩⟩⟩⟩⟩⟩⟩⟩⟩⟩⟩⟩⟩⟩⟩
theorem lw_p16 : lw_okq (⟨"RowUnwinder$Machine", "behindBack", "(III)I"⟩, 9) := ⟨⟨by decide +kernel, by decide +kernel⟩, List.mem_of_getElem? (i := 79) (by decide +kernel), List.mem_of_getElem? (i := 444) (by decide +kernel), List.mem_of_getElem? (i := 445) (by decide +kernel)⟩
theorem lw_p17 : lw_okq (⟨"RowUnwinder", "beginDoing", "()V"⟩, 8) := ⟨⟨by decide +kernel, by decide +kernel⟩, List.mem_of_getElem? (i := 15) (by decide +kernel), List.mem_of_getElem? (i := 457) (by decide +kernel), List.mem_of_getElem? (i := 458) (by decide +kernel)⟩
theorem lw_p18 : lw_okq (⟨"RowUnwinder$Machine", "saveAtLatest", "()V"⟩, 9) := ⟨⟨by decide +kernel, by decide +kernel⟩, List.mem_of_getElem? (i := 79) (by decide +kernel), List.mem_of_getElem? (i := 482) (by decide +kernel), List.mem_of_getElem? (i := 483) (by decide +kernel)⟩
theorem lw_p19 : lw_okq (⟨"RowUnwinder", "hasText", "()Z"⟩, 8) := ⟨⟨by decide +kernel, by decide +kernel⟩, List.mem_of_getElem? (i := 15) (by decide +kernel), List.mem_of_getElem? (i := 518) (by decide +kernel), List.mem_of_getElem? (i := 519) (by decide +kernel)⟩
theorem lw_p20 : lw_okq (⟨"RowUnwinder$Machine", "deedAt", "(III)I"⟩, 9) := ⟨⟨by decide +kernel, by decide +kernel⟩, List.mem_of_getElem? (i := 79) (by decide +kernel), List.mem_of_getElem? (i := 539) (by decide +kernel), List.mem_of_getElem? (i := 540) (by decide +kernel)⟩
theorem lw_p21 : lw_okq (⟨"RowUnwinder$Machine", "finishAtLatest", "(II)V"⟩, 9) := ⟨⟨by decide +kernel, by decide +kernel⟩, List.mem_of_getElem? (i := 79) (by decide +kernel), List.mem_of_getElem? (i := 548) (by decide +kernel), List.mem_of_getElem? (i := 549) (by decide +kernel)⟩
theorem lw_p22 : lw_okq (⟨"RowUnwinder$Draws", "throwDrawn", "(LRowUnwinder$Machine;)Z"⟩, 1) := ⟨⟨by decide +kernel, by decide +kernel⟩, List.mem_of_getElem? (i := 601) (by decide +kernel), List.mem_of_getElem? (i := 627) (by decide +kernel), List.mem_of_getElem? (i := 628) (by decide +kernel)⟩
theorem lw_p23 : lw_okq (⟨"RowUnwinder$Code", "isAnythingSaved", "(II)Z"⟩, 6) := ⟨⟨by decide +kernel, by decide +kernel⟩, List.mem_of_getElem? (i := 81) (by decide +kernel), List.mem_of_getElem? (i := 662) (by decide +kernel), List.mem_of_getElem? (i := 663) (by decide +kernel)⟩
theorem lw_p24 : lw_okq (⟨"RowUnwinder", "digestFunction", "(JI)J"⟩, 8) := ⟨⟨by decide +kernel, by decide +kernel⟩, List.mem_of_getElem? (i := 15) (by decide +kernel), List.mem_of_getElem? (i := 672) (by decide +kernel), List.mem_of_getElem? (i := 673) (by decide +kernel)⟩
theorem lw_p25 : lw_okq (⟨"RowUnwinder", "digestThrowing", "(J)J"⟩, 8) := ⟨⟨by decide +kernel, by decide +kernel⟩, List.mem_of_getElem? (i := 15) (by decide +kernel), List.mem_of_getElem? (i := 684) (by decide +kernel), List.mem_of_getElem? (i := 685) (by decide +kernel)⟩
theorem lw_p26 : lw_okq (⟨"RowUnwinderModel", "faultOf", "()I"⟩, 42) := ⟨⟨by decide +kernel, by decide +kernel⟩, List.mem_of_getElem? (i := 693) (by decide +kernel), List.mem_of_getElem? (i := 842) (by decide +kernel), List.mem_of_getElem? (i := 843) (by decide +kernel)⟩
theorem lw_p27 : lw_okq (⟨"RowUnwinderModel", "beginFunction", "()V"⟩, 42) := ⟨⟨by decide +kernel, by decide +kernel⟩, List.mem_of_getElem? (i := 693) (by decide +kernel), List.mem_of_getElem? (i := 846) (by decide +kernel), List.mem_of_getElem? (i := 847) (by decide +kernel)⟩
theorem lw_p28 : lw_okq (⟨"RowUnwinderModel", "isGood", "(I)Z"⟩, 42) := ⟨⟨by decide +kernel, by decide +kernel⟩, List.mem_of_getElem? (i := 693) (by decide +kernel), List.mem_of_getElem? (i := 850) (by decide +kernel), List.mem_of_getElem? (i := 851) (by decide +kernel)⟩
theorem lw_p29 : lw_okq (⟨"RowUnwinderModel", "isPadBegun", "(I)Z"⟩, 42) := ⟨⟨by decide +kernel, by decide +kernel⟩, List.mem_of_getElem? (i := 693) (by decide +kernel), List.mem_of_getElem? (i := 854) (by decide +kernel), List.mem_of_getElem? (i := 855) (by decide +kernel)⟩
theorem lw_p30 : lw_okq (⟨"RowUnwinderModel", "isPadDigit", "(I)Z"⟩, 42) := ⟨⟨by decide +kernel, by decide +kernel⟩, List.mem_of_getElem? (i := 693) (by decide +kernel), List.mem_of_getElem? (i := 861) (by decide +kernel), List.mem_of_getElem? (i := 862) (by decide +kernel)⟩
theorem lw_p31 : lw_okq (⟨"RowUnwinderModel", "isOpBegun", "(I)Z"⟩, 42) := ⟨⟨by decide +kernel, by decide +kernel⟩, List.mem_of_getElem? (i := 693) (by decide +kernel), List.mem_of_getElem? (i := 868) (by decide +kernel), List.mem_of_getElem? (i := 869) (by decide +kernel)⟩
def lw_privs_2 : List (MethodName × Nat) := [(⟨"RowUnwinder$Machine", "behindBack", "(III)I"⟩, 9), (⟨"RowUnwinder", "beginDoing", "()V"⟩, 8), (⟨"RowUnwinder$Machine", "saveAtLatest", "()V"⟩, 9), (⟨"RowUnwinder", "hasText", "()Z"⟩, 8), (⟨"RowUnwinder$Machine", "deedAt", "(III)I"⟩, 9), (⟨"RowUnwinder$Machine", "finishAtLatest", "(II)V"⟩, 9), (⟨"RowUnwinder$Draws", "throwDrawn", "(LRowUnwinder$Machine;)Z"⟩, 1), (⟨"RowUnwinder$Code", "isAnythingSaved", "(II)Z"⟩, 6), (⟨"RowUnwinder", "digestFunction", "(JI)J"⟩, 8), (⟨"RowUnwinder", "digestThrowing", "(J)J"⟩, 8), (⟨"RowUnwinderModel", "faultOf", "()I"⟩, 42), (⟨"RowUnwinderModel", "beginFunction", "()V"⟩, 42), (⟨"RowUnwinderModel", "isGood", "(I)Z"⟩, 42), (⟨"RowUnwinderModel", "isPadBegun", "(I)Z"⟩, 42), (⟨"RowUnwinderModel", "isPadDigit", "(I)Z"⟩, 42), (⟨"RowUnwinderModel", "isOpBegun", "(I)Z"⟩, 42)]
theorem lw_r2 : ∀ q ∈ lw_privs_2, lw_okq q := List.forall_mem_cons.mpr ⟨lw_p16, List.forall_mem_cons.mpr ⟨lw_p17, List.forall_mem_cons.mpr ⟨lw_p18, List.forall_mem_cons.mpr ⟨lw_p19, List.forall_mem_cons.mpr ⟨lw_p20, List.forall_mem_cons.mpr ⟨lw_p21, List.forall_mem_cons.mpr ⟨lw_p22, List.forall_mem_cons.mpr ⟨lw_p23, List.forall_mem_cons.mpr ⟨lw_p24, List.forall_mem_cons.mpr ⟨lw_p25, List.forall_mem_cons.mpr ⟨lw_p26, List.forall_mem_cons.mpr ⟨lw_p27, List.forall_mem_cons.mpr ⟨lw_p28, List.forall_mem_cons.mpr ⟨lw_p29, List.forall_mem_cons.mpr ⟨lw_p30, List.forall_mem_cons.mpr ⟨lw_p31, fun _ h => absurd h List.not_mem_nil⟩⟩⟩⟩⟩⟩⟩⟩⟩⟩⟩⟩⟩⟩⟩⟩
theorem lw_p32 : lw_okq (⟨"RowUnwinderModel", "endOp", "()V"⟩, 42) := ⟨⟨by decide +kernel, by decide +kernel⟩, List.mem_of_getElem? (i := 693) (by decide +kernel), List.mem_of_getElem? (i := 872) (by decide +kernel), List.mem_of_getElem? (i := 873) (by decide +kernel)⟩
theorem lw_p33 : lw_okq (⟨"RowUnwinderModel", "isOpDigit", "(I)Z"⟩, 42) := ⟨⟨by decide +kernel, by decide +kernel⟩, List.mem_of_getElem? (i := 693) (by decide +kernel), List.mem_of_getElem? (i := 879) (by decide +kernel), List.mem_of_getElem? (i := 880) (by decide +kernel)⟩
theorem lw_p34 : lw_okq (⟨"RowUnwinderModel", "layFunction", "(I)V"⟩, 42) := ⟨⟨by decide +kernel, by decide +kernel⟩, List.mem_of_getElem? (i := 693) (by decide +kernel), List.mem_of_getElem? (i := 893) (by decide +kernel), List.mem_of_getElem? (i := 894) (by decide +kernel)⟩
theorem lw_p35 : lw_okq (⟨"RowUnwinderModel", "doOp", "(II)V"⟩, 42) := ⟨⟨by decide +kernel, by decide +kernel⟩, List.mem_of_getElem? (i := 693) (by decide +kernel), List.mem_of_getElem? (i := 897) (by decide +kernel), List.mem_of_getElem? (i := 898) (by decide +kernel)⟩
theorem lw_p36 : lw_okq (⟨"RowUnwinderModel", "isFunction", "(I)Z"⟩, 42) := ⟨⟨by decide +kernel, by decide +kernel⟩, List.mem_of_getElem? (i := 693) (by decide +kernel), List.mem_of_getElem? (i := 909) (by decide +kernel), List.mem_of_getElem? (i := 910) (by decide +kernel)⟩
theorem lw_p37 : lw_okq (⟨"RowUnwinderModel", "frames", "()I"⟩, 42) := ⟨⟨by decide +kernel, by decide +kernel⟩, List.mem_of_getElem? (i := 693) (by decide +kernel), List.mem_of_getElem? (i := 913) (by decide +kernel), List.mem_of_getElem? (i := 914) (by decide +kernel)⟩
theorem lw_p38 : lw_okq (⟨"RowUnwinderModel", "keep", "()V"⟩, 42) := ⟨⟨by decide +kernel, by decide +kernel⟩, List.mem_of_getElem? (i := 693) (by decide +kernel), List.mem_of_getElem? (i := 917) (by decide +kernel), List.mem_of_getElem? (i := 918) (by decide +kernel)⟩
theorem lw_p39 : lw_okq (⟨"RowUnwinderModel", "doCall", "(I)V"⟩, 42) := ⟨⟨by decide +kernel, by decide +kernel⟩, List.mem_of_getElem? (i := 693) (by decide +kernel), List.mem_of_getElem? (i := 921) (by decide +kernel), List.mem_of_getElem? (i := 922) (by decide +kernel)⟩
theorem lw_p40 : lw_okq (⟨"RowUnwinderModel", "frameAt", "(I)I"⟩, 42) := ⟨⟨by decide +kernel, by decide +kernel⟩, List.mem_of_getElem? (i := 693) (by decide +kernel), List.mem_of_getElem? (i := 925) (by decide +kernel), List.mem_of_getElem? (i := 926) (by decide +kernel)⟩
theorem lw_p41 : lw_okq (⟨"RowUnwinderModel", "saveAt", "(I)V"⟩, 42) := ⟨⟨by decide +kernel, by decide +kernel⟩, List.mem_of_getElem? (i := 693) (by decide +kernel), List.mem_of_getElem? (i := 929) (by decide +kernel), List.mem_of_getElem? (i := 930) (by decide +kernel)⟩
theorem lw_p42 : lw_okq (⟨"RowUnwinderModel", "doGo", "(I)V"⟩, 42) := ⟨⟨by decide +kernel, by decide +kernel⟩, List.mem_of_getElem? (i := 693) (by decide +kernel), List.mem_of_getElem? (i := 938) (by decide +kernel), List.mem_of_getElem? (i := 939) (by decide +kernel)⟩
theorem lw_p43 : lw_okq (⟨"RowUnwinderModel", "lacks", "()Z"⟩, 42) := ⟨⟨by decide +kernel, by decide +kernel⟩, List.mem_of_getElem? (i := 693) (by decide +kernel), List.mem_of_getElem? (i := 948) (by decide +kernel), List.mem_of_getElem? (i := 949) (by decide +kernel)⟩
theorem lw_p44 : lw_okq (⟨"RowUnwinderModel", "doBack", "()V"⟩, 42) := ⟨⟨by decide +kernel, by decide +kernel⟩, List.mem_of_getElem? (i := 693) (by decide +kernel), List.mem_of_getElem? (i := 956) (by decide +kernel), List.mem_of_getElem? (i := 957) (by decide +kernel)⟩
theorem lw_p45 : lw_okq (⟨"RowUnwinderModel", "searchOf", "(II)I"⟩, 42) := ⟨⟨by decide +kernel, by decide +kernel⟩, List.mem_of_getElem? (i := 693) (by decide +kernel), List.mem_of_getElem? (i := 966) (by decide +kernel), List.mem_of_getElem? (i := 967) (by decide +kernel)⟩
theorem lw_p46 : lw_okq (⟨"RowUnwinderModel", "layCatcher", "(I)V"⟩, 42) := ⟨⟨by decide +kernel, by decide +kernel⟩, List.mem_of_getElem? (i := 693) (by decide +kernel), List.mem_of_getElem? (i := 970) (by decide +kernel), List.mem_of_getElem? (i := 971) (by decide +kernel)⟩
theorem lw_p47 : lw_okq (⟨"RowUnwinderModel", "doesAt", "(IIII)I"⟩, 42) := ⟨⟨by decide +kernel, by decide +kernel⟩, List.mem_of_getElem? (i := 693) (by decide +kernel), List.mem_of_getElem? (i := 974) (by decide +kernel), List.mem_of_getElem? (i := 975) (by decide +kernel)⟩
def lw_privs_3 : List (MethodName × Nat) := [(⟨"RowUnwinderModel", "endOp", "()V"⟩, 42), (⟨"RowUnwinderModel", "isOpDigit", "(I)Z"⟩, 42), (⟨"RowUnwinderModel", "layFunction", "(I)V"⟩, 42), (⟨"RowUnwinderModel", "doOp", "(II)V"⟩, 42), (⟨"RowUnwinderModel", "isFunction", "(I)Z"⟩, 42), (⟨"RowUnwinderModel", "frames", "()I"⟩, 42), (⟨"RowUnwinderModel", "keep", "()V"⟩, 42), (⟨"RowUnwinderModel", "doCall", "(I)V"⟩, 42), (⟨"RowUnwinderModel", "frameAt", "(I)I"⟩, 42), (⟨"RowUnwinderModel", "saveAt", "(I)V"⟩, 42), (⟨"RowUnwinderModel", "doGo", "(I)V"⟩, 42), (⟨"RowUnwinderModel", "lacks", "()Z"⟩, 42), (⟨"RowUnwinderModel", "doBack", "()V"⟩, 42), (⟨"RowUnwinderModel", "searchOf", "(II)I"⟩, 42), (⟨"RowUnwinderModel", "layCatcher", "(I)V"⟩, 42), (⟨"RowUnwinderModel", "doesAt", "(IIII)I"⟩, 42)]
theorem lw_r3 : ∀ q ∈ lw_privs_3, lw_okq q := List.forall_mem_cons.mpr ⟨lw_p32, List.forall_mem_cons.mpr ⟨lw_p33, List.forall_mem_cons.mpr ⟨lw_p34, List.forall_mem_cons.mpr ⟨lw_p35, List.forall_mem_cons.mpr ⟨lw_p36, List.forall_mem_cons.mpr ⟨lw_p37, List.forall_mem_cons.mpr ⟨lw_p38, List.forall_mem_cons.mpr ⟨lw_p39, List.forall_mem_cons.mpr ⟨lw_p40, List.forall_mem_cons.mpr ⟨lw_p41, List.forall_mem_cons.mpr ⟨lw_p42, List.forall_mem_cons.mpr ⟨lw_p43, List.forall_mem_cons.mpr ⟨lw_p44, List.forall_mem_cons.mpr ⟨lw_p45, List.forall_mem_cons.mpr ⟨lw_p46, List.forall_mem_cons.mpr ⟨lw_p47, fun _ h => absurd h List.not_mem_nil⟩⟩⟩⟩⟩⟩⟩⟩⟩⟩⟩⟩⟩⟩⟩⟩
theorem lw_p48 : lw_okq (⟨"RowUnwinderModel", "doRaise", "(I)V"⟩, 42) := ⟨⟨by decide +kernel, by decide +kernel⟩, List.mem_of_getElem? (i := 693) (by decide +kernel), List.mem_of_getElem? (i := 988) (by decide +kernel), List.mem_of_getElem? (i := 989) (by decide +kernel)⟩
theorem lw_p49 : lw_okq (⟨"RowUnwinderModel", "finish", "(II)V"⟩, 42) := ⟨⟨by decide +kernel, by decide +kernel⟩, List.mem_of_getElem? (i := 693) (by decide +kernel), List.mem_of_getElem? (i := 992) (by decide +kernel), List.mem_of_getElem? (i := 993) (by decide +kernel)⟩
theorem lw_p50 : lw_okq (⟨"RowUnwinderModel", "looseOf", "()I"⟩, 42) := ⟨⟨by decide +kernel, by decide +kernel⟩, List.mem_of_getElem? (i := 693) (by decide +kernel), List.mem_of_getElem? (i := 1000) (by decide +kernel), List.mem_of_getElem? (i := 1001) (by decide +kernel)⟩
theorem lw_p51 : lw_okq (⟨"RowUnwinderModel", "isPad", "(II)Z"⟩, 42) := ⟨⟨by decide +kernel, by decide +kernel⟩, List.mem_of_getElem? (i := 693) (by decide +kernel), List.mem_of_getElem? (i := 1012) (by decide +kernel), List.mem_of_getElem? (i := 1013) (by decide +kernel)⟩
theorem lw_p52 : lw_okq (⟨"RowUnwinderModel", "tellRow", "(III)I"⟩, 42) := ⟨⟨by decide +kernel, by decide +kernel⟩, List.mem_of_getElem? (i := 693) (by decide +kernel), List.mem_of_getElem? (i := 1021) (by decide +kernel), List.mem_of_getElem? (i := 1022) (by decide +kernel)⟩
theorem lw_p53 : lw_okq (⟨"RowUnwinderModel", "tellPad", "(III)I"⟩, 42) := ⟨⟨by decide +kernel, by decide +kernel⟩, List.mem_of_getElem? (i := 693) (by decide +kernel), List.mem_of_getElem? (i := 1029) (by decide +kernel), List.mem_of_getElem? (i := 1030) (by decide +kernel)⟩
theorem lw_p54 : lw_okq (⟨"RowUnwinderModel", "sortsOf", "(II)I"⟩, 42) := ⟨⟨by decide +kernel, by decide +kernel⟩, List.mem_of_getElem? (i := 693) (by decide +kernel), List.mem_of_getElem? (i := 1033) (by decide +kernel), List.mem_of_getElem? (i := 1034) (by decide +kernel)⟩
theorem lw_p55 : lw_okq (⟨"RowUnwinderModel", "askOf", "(II)I"⟩, 42) := ⟨⟨by decide +kernel, by decide +kernel⟩, List.mem_of_getElem? (i := 693) (by decide +kernel), List.mem_of_getElem? (i := 1037) (by decide +kernel), List.mem_of_getElem? (i := 1038) (by decide +kernel)⟩
theorem lw_p56 : lw_okq (⟨"RowUnwinderModel", "tellFrame", "(II)I"⟩, 42) := ⟨⟨by decide +kernel, by decide +kernel⟩, List.mem_of_getElem? (i := 693) (by decide +kernel), List.mem_of_getElem? (i := 1050) (by decide +kernel), List.mem_of_getElem? (i := 1051) (by decide +kernel)⟩
theorem lw_p57 : lw_okq (⟨"RowUnwinderModel", "callerOf", "(II)I"⟩, 42) := ⟨⟨by decide +kernel, by decide +kernel⟩, List.mem_of_getElem? (i := 693) (by decide +kernel), List.mem_of_getElem? (i := 1054) (by decide +kernel), List.mem_of_getElem? (i := 1055) (by decide +kernel)⟩
theorem lw_p58 : lw_okq (⟨"RowUnwinderModel", "drawOne", "()I"⟩, 42) := ⟨⟨by decide +kernel, by decide +kernel⟩, List.mem_of_getElem? (i := 693) (by decide +kernel), List.mem_of_getElem? (i := 1079) (by decide +kernel), List.mem_of_getElem? (i := 1080) (by decide +kernel)⟩
theorem lw_p59 : lw_okq (⟨"RowUnwinderModel", "draw", "(I)I"⟩, 42) := ⟨⟨by decide +kernel, by decide +kernel⟩, List.mem_of_getElem? (i := 693) (by decide +kernel), List.mem_of_getElem? (i := 1083) (by decide +kernel), List.mem_of_getElem? (i := 1084) (by decide +kernel)⟩
theorem lw_p60 : lw_okq (⟨"RowUnwinderModel", "drawCall", "()V"⟩, 42) := ⟨⟨by decide +kernel, by decide +kernel⟩, List.mem_of_getElem? (i := 693) (by decide +kernel), List.mem_of_getElem? (i := 1091) (by decide +kernel), List.mem_of_getElem? (i := 1092) (by decide +kernel)⟩
theorem lw_p61 : lw_okq (⟨"RowUnwinderModel", "drawGo", "()V"⟩, 42) := ⟨⟨by decide +kernel, by decide +kernel⟩, List.mem_of_getElem? (i := 693) (by decide +kernel), List.mem_of_getElem? (i := 1095) (by decide +kernel), List.mem_of_getElem? (i := 1096) (by decide +kernel)⟩
theorem lw_p62 : lw_okq (⟨"RowUnwinderModel", "drawSet", "()V"⟩, 42) := ⟨⟨by decide +kernel, by decide +kernel⟩, List.mem_of_getElem? (i := 693) (by decide +kernel), List.mem_of_getElem? (i := 1099) (by decide +kernel), List.mem_of_getElem? (i := 1100) (by decide +kernel)⟩
theorem lw_p63 : lw_okq (⟨"RowUnwinderModel", "drawRaise", "()I"⟩, 42) := ⟨⟨by decide +kernel, by decide +kernel⟩, List.mem_of_getElem? (i := 693) (by decide +kernel), List.mem_of_getElem? (i := 1103) (by decide +kernel), List.mem_of_getElem? (i := 1104) (by decide +kernel)⟩
def lw_privs_4 : List (MethodName × Nat) := [(⟨"RowUnwinderModel", "doRaise", "(I)V"⟩, 42), (⟨"RowUnwinderModel", "finish", "(II)V"⟩, 42), (⟨"RowUnwinderModel", "looseOf", "()I"⟩, 42), (⟨"RowUnwinderModel", "isPad", "(II)Z"⟩, 42), (⟨"RowUnwinderModel", "tellRow", "(III)I"⟩, 42), (⟨"RowUnwinderModel", "tellPad", "(III)I"⟩, 42), (⟨"RowUnwinderModel", "sortsOf", "(II)I"⟩, 42), (⟨"RowUnwinderModel", "askOf", "(II)I"⟩, 42), (⟨"RowUnwinderModel", "tellFrame", "(II)I"⟩, 42), (⟨"RowUnwinderModel", "callerOf", "(II)I"⟩, 42), (⟨"RowUnwinderModel", "drawOne", "()I"⟩, 42), (⟨"RowUnwinderModel", "draw", "(I)I"⟩, 42), (⟨"RowUnwinderModel", "drawCall", "()V"⟩, 42), (⟨"RowUnwinderModel", "drawGo", "()V"⟩, 42), (⟨"RowUnwinderModel", "drawSet", "()V"⟩, 42), (⟨"RowUnwinderModel", "drawRaise", "()I"⟩, 42)]
theorem lw_r4 : ∀ q ∈ lw_privs_4, lw_okq q := List.forall_mem_cons.mpr ⟨lw_p48, List.forall_mem_cons.mpr ⟨lw_p49, List.forall_mem_cons.mpr ⟨lw_p50, List.forall_mem_cons.mpr ⟨lw_p51, List.forall_mem_cons.mpr ⟨lw_p52, List.forall_mem_cons.mpr ⟨lw_p53, List.forall_mem_cons.mpr ⟨lw_p54, List.forall_mem_cons.mpr ⟨lw_p55, List.forall_mem_cons.mpr ⟨lw_p56, List.forall_mem_cons.mpr ⟨lw_p57, List.forall_mem_cons.mpr ⟨lw_p58, List.forall_mem_cons.mpr ⟨lw_p59, List.forall_mem_cons.mpr ⟨lw_p60, List.forall_mem_cons.mpr ⟨lw_p61, List.forall_mem_cons.mpr ⟨lw_p62, List.forall_mem_cons.mpr ⟨lw_p63, fun _ h => absurd h List.not_mem_nil⟩⟩⟩⟩⟩⟩⟩⟩⟩⟩⟩⟩⟩⟩⟩⟩
theorem lw_p64 : lw_okq (⟨"RowUnwinderModel", "countOf", "(I)I"⟩, 42) := ⟨⟨by decide +kernel, by decide +kernel⟩, List.mem_of_getElem? (i := 693) (by decide +kernel), List.mem_of_getElem? (i := 1119) (by decide +kernel), List.mem_of_getElem? (i := 1120) (by decide +kernel)⟩
theorem lw_p65 : lw_okq (⟨"RowUnwinderModel", "padsAll", "()I"⟩, 42) := ⟨⟨by decide +kernel, by decide +kernel⟩, List.mem_of_getElem? (i := 693) (by decide +kernel), List.mem_of_getElem? (i := 1123) (by decide +kernel), List.mem_of_getElem? (i := 1124) (by decide +kernel)⟩
theorem lw_p66 : lw_okq (⟨"RowUnwinderModel", "savedMany", "()I"⟩, 42) := ⟨⟨by decide +kernel, by decide +kernel⟩, List.mem_of_getElem? (i := 693) (by decide +kernel), List.mem_of_getElem? (i := 1127) (by decide +kernel), List.mem_of_getElem? (i := 1128) (by decide +kernel)⟩
theorem lw_p67 : lw_okq (⟨"RowUnwinderModel", "sayFunction", "(I)V"⟩, 42) := ⟨⟨by decide +kernel, by decide +kernel⟩, List.mem_of_getElem? (i := 693) (by decide +kernel), List.mem_of_getElem? (i := 1136) (by decide +kernel), List.mem_of_getElem? (i := 1137) (by decide +kernel)⟩
theorem lw_p68 : lw_okq (⟨"RowUnwinderModel", "say", "(J)V"⟩, 42) := ⟨⟨by decide +kernel, by decide +kernel⟩, List.mem_of_getElem? (i := 693) (by decide +kernel), List.mem_of_getElem? (i := 1140) (by decide +kernel), List.mem_of_getElem? (i := 1141) (by decide +kernel)⟩
theorem lw_p69 : lw_okq (⟨"RowUnwinderModel", "sayText", "()V"⟩, 42) := ⟨⟨by decide +kernel, by decide +kernel⟩, List.mem_of_getElem? (i := 693) (by decide +kernel), List.mem_of_getElem? (i := 1145) (by decide +kernel), List.mem_of_getElem? (i := 1146) (by decide +kernel)⟩
def lw_privs_5 : List (MethodName × Nat) := [(⟨"RowUnwinderModel", "countOf", "(I)I"⟩, 42), (⟨"RowUnwinderModel", "padsAll", "()I"⟩, 42), (⟨"RowUnwinderModel", "savedMany", "()I"⟩, 42), (⟨"RowUnwinderModel", "sayFunction", "(I)V"⟩, 42), (⟨"RowUnwinderModel", "say", "(J)V"⟩, 42), (⟨"RowUnwinderModel", "sayText", "()V"⟩, 42)]
theorem lw_r5 : ∀ q ∈ lw_privs_5, lw_okq q := List.forall_mem_cons.mpr ⟨lw_p64, List.forall_mem_cons.mpr ⟨lw_p65, List.forall_mem_cons.mpr ⟨lw_p66, List.forall_mem_cons.mpr ⟨lw_p67, List.forall_mem_cons.mpr ⟨lw_p68, List.forall_mem_cons.mpr ⟨lw_p69, fun _ h => absurd h List.not_mem_nil⟩⟩⟩⟩⟩⟩
def lw_privs : List (MethodName × Nat) := lw_privs_1 ++ (lw_privs_2 ++ (lw_privs_3 ++ (lw_privs_4 ++ (lw_privs_5))))
def lw_tbl : List Cond := k2_sels lw_privs ++ tables_1
theorem lw_privs_ok : ∀ q ∈ lw_privs, lw_okq q := by
  show ∀ q ∈ lw_privs_1 ++ (lw_privs_2 ++ (lw_privs_3 ++ (lw_privs_4 ++ (lw_privs_5)))), lw_okq q
  exact List.forall_mem_append.mpr ⟨lw_r1, List.forall_mem_append.mpr ⟨lw_r2, List.forall_mem_append.mpr ⟨lw_r3, List.forall_mem_append.mpr ⟨lw_r4, lw_r5⟩⟩⟩⟩
def RX0 : String := "RowUnwinder$Code"
def TX0 : u_T := fun k => match k with
  | 0 => ("RowUnwinder$Code", "functions", "I", false)
  | 1 => ("RowUnwinder$Code", "rows", "[I", true)
  | 2 => ("RowUnwinder$Code", "saves", "[I", true)
  | 3 => ("RowUnwinder$Code", "saveCounts", "[I", true)
  | 4 => ("RowUnwinder$Code", "pads", "[I", true)
  | _ => ("RowUnwinder$Code", "padCounts", "[I", true)
def tyX0 : Nat → FieldType := fun k => match k with
  | 0 => .int
  | 1 => .array .int
  | 2 => .array .int
  | 3 => .array .int
  | 4 => .array .int
  | _ => .array .int
abbrev wsX00 : List Cond := u_ws RX0 TX0 6
theorem nmX0 : ∀ a, a < 6 → ∀ b, b < 6 → a ≠ b → (TX0 a).2.1 ≠ (TX0 b).2.1 := by decide +kernel
theorem tyX0_ok : ∀ k, k < 6 → parseFieldDescriptor (TX0 k).2.2.1 = some (tyX0 k) := by decide +kernel
abbrev cX0_init : ByteArray := prog_2_method_1_code
def yX0_init : MethodName := ⟨RX0, "<init>", "()V"⟩
abbrev cX0_rowPart : ByteArray := prog_2_method_2_code
def yX0_rowPart : MethodName := ⟨RX0, "rowPart", "(III)I"⟩
abbrev cX0_writeRowPart : ByteArray := prog_2_method_3_code
def yX0_writeRowPart : MethodName := ⟨RX0, "writeRowPart", "(IIII)V"⟩
abbrev cX0_padCount : ByteArray := prog_2_method_4_code
def yX0_padCount : MethodName := ⟨RX0, "padCount", "(I)I"⟩
abbrev cX0_writePadCount : ByteArray := prog_2_method_5_code
def yX0_writePadCount : MethodName := ⟨RX0, "writePadCount", "(II)V"⟩
abbrev cX0_padPart : ByteArray := prog_2_method_6_code
def yX0_padPart : MethodName := ⟨RX0, "padPart", "(III)I"⟩
abbrev cX0_writePadPart : ByteArray := prog_2_method_7_code
def yX0_writePadPart : MethodName := ⟨RX0, "writePadPart", "(IIII)V"⟩
abbrev cX0_saveCount : ByteArray := prog_2_method_8_code
def yX0_saveCount : MethodName := ⟨RX0, "saveCount", "(I)I"⟩
abbrev cX0_saveAddress : ByteArray := prog_2_method_9_code
def yX0_saveAddress : MethodName := ⟨RX0, "saveAddress", "(II)I"⟩
abbrev cX0_saveRegister : ByteArray := prog_2_method_10_code
def yX0_saveRegister : MethodName := ⟨RX0, "saveRegister", "(II)I"⟩
abbrev cX0_saveCell : ByteArray := prog_2_method_11_code
def yX0_saveCell : MethodName := ⟨RX0, "saveCell", "(II)I"⟩
abbrev cX0_addSave : ByteArray := prog_2_method_12_code
def yX0_addSave : MethodName := ⟨RX0, "addSave", "(IIII)V"⟩
abbrev cX0_countPads : ByteArray := prog_2_method_13_code
def yX0_countPads : MethodName := ⟨RX0, "countPads", "()I"⟩
abbrev cX0_countSavingAddresses : ByteArray := prog_2_method_14_code
def yX0_countSavingAddresses : MethodName := ⟨RX0, "countSavingAddresses", "()I"⟩
abbrev cX0_isAnythingSaved : ByteArray := prog_2_method_15_code
def yX0_isAnythingSaved : MethodName := ⟨RX0, "isAnythingSaved", "(II)Z"⟩
def RX1 : String := "RowUnwinder$Draws"
def TX1 : u_T := fun k => match k with
  | _ => ("RowUnwinder$Draws", "seed", "J", false)
def tyX1 : Nat → FieldType := fun k => match k with
  | _ => .long
abbrev wsX10 : List Cond := u_ws RX1 TX1 1
theorem nmX1 : ∀ a, a < 1 → ∀ b, b < 1 → a ≠ b → (TX1 a).2.1 ≠ (TX1 b).2.1 := by decide +kernel
theorem tyX1_ok : ∀ k, k < 1 → parseFieldDescriptor (TX1 k).2.2.1 = some (tyX1 k) := by decide +kernel
abbrev cX1_init : ByteArray := prog_3_method_1_code
def yX1_init : MethodName := ⟨RX1, "<init>", "(I)V"⟩
abbrev cX1_draw : ByteArray := prog_3_method_2_code
def yX1_draw : MethodName := ⟨RX1, "draw", "(I)I"⟩
abbrev cX1_doOne : ByteArray := prog_3_method_3_code
def yX1_doOne : MethodName := ⟨RX1, "doOne", "(LRowUnwinder$Machine;)Z"⟩
abbrev cX1_throwDrawn : ByteArray := prog_3_method_4_code
def yX1_throwDrawn : MethodName := ⟨RX1, "throwDrawn", "(LRowUnwinder$Machine;)Z"⟩
def RX2 : String := "RowUnwinder$History"
def TX2 : u_T := fun k => match k with
  | 0 => ("RowUnwinder$History", "past", "[LRowUnwinder$Machine;", true)
  | 1 => ("RowUnwinder$History", "next", "I", false)
  | _ => ("RowUnwinder$History", "many", "I", false)
def tyX2 : Nat → FieldType := fun k => match k with
  | 0 => .array (.object "RowUnwinder$Machine")
  | 1 => .int
  | _ => .int
abbrev wsX20 : List Cond := u_ws RX2 TX2 3
theorem nmX2 : ∀ a, a < 3 → ∀ b, b < 3 → a ≠ b → (TX2 a).2.1 ≠ (TX2 b).2.1 := by decide +kernel
theorem tyX2_ok : ∀ k, k < 3 → parseFieldDescriptor (TX2 k).2.2.1 = some (tyX2 k) := by decide +kernel
abbrev cX2_init : ByteArray := prog_4_method_1_code
def yX2_init : MethodName := ⟨RX2, "<init>", "()V"⟩
abbrev cX2_empty : ByteArray := prog_4_method_2_code
def yX2_empty : MethodName := ⟨RX2, "empty", "()V"⟩
abbrev cX2_add : ByteArray := prog_4_method_3_code
def yX2_add : MethodName := ⟨RX2, "add", "(LRowUnwinder$Machine;)V"⟩
abbrev cX2_takeLatest : ByteArray := prog_4_method_4_code
def yX2_takeLatest : MethodName := ⟨RX2, "takeLatest", "(LRowUnwinder$Machine;)LRowUnwinder$Machine;"⟩
abbrev cX2_become : ByteArray := prog_4_method_5_code
def yX2_become : MethodName := ⟨RX2, "become", "(LRowUnwinder$History;)V"⟩
def RX3 : String := "RowUnwinder$Machine"
def TX3 : u_T := fun k => match k with
  | 0 => ("RowUnwinder$Machine", "code", "LRowUnwinder$Code;", true)
  | 1 => ("RowUnwinder$Machine", "kinds", "[I", true)
  | 2 => ("RowUnwinder$Machine", "registers", "[I", true)
  | 3 => ("RowUnwinder$Machine", "functions", "[I", true)
  | 4 => ("RowUnwinder$Machine", "addresses", "[I", true)
  | 5 => ("RowUnwinder$Machine", "cells", "[I", true)
  | 6 => ("RowUnwinder$Machine", "finished", "[I", true)
  | 7 => ("RowUnwinder$Machine", "frames", "I", false)
  | _ => ("RowUnwinder$Machine", "finishers", "I", false)
def tyX3 : Nat → FieldType := fun k => match k with
  | 0 => .object "RowUnwinder$Code"
  | 1 => .array .int
  | 2 => .array .int
  | 3 => .array .int
  | 4 => .array .int
  | 5 => .array .int
  | 6 => .array .int
  | 7 => .int
  | _ => .int
abbrev wsX30 : List Cond := u_ws RX3 TX3 9
theorem nmX3 : ∀ a, a < 9 → ∀ b, b < 9 → a ≠ b → (TX3 a).2.1 ≠ (TX3 b).2.1 := by decide +kernel
theorem tyX3_ok : ∀ k, k < 9 → parseFieldDescriptor (TX3 k).2.2.1 = some (tyX3 k) := by decide +kernel
abbrev cX3_init : ByteArray := prog_5_method_1_code
def yX3_init : MethodName := ⟨RX3, "<init>", "(LRowUnwinder$Code;)V"⟩
abbrev cX3_init_ : ByteArray := prog_5_method_2_code
def yX3_init_ : MethodName := ⟨RX3, "<init>", "(LRowUnwinder$Machine;)V"⟩
abbrev cX3_levelOf : ByteArray := prog_5_method_3_code
def yX3_levelOf : MethodName := ⟨RX3, "levelOf", "(I)I"⟩
abbrev cX3_latestAddress : ByteArray := prog_5_method_4_code
def yX3_latestAddress : MethodName := ⟨RX3, "latestAddress", "()I"⟩
abbrev cX3_enter : ByteArray := prog_5_method_5_code
def yX3_enter : MethodName := ⟨RX3, "enter", "(I)V"⟩
abbrev cX3_step : ByteArray := prog_5_method_6_code
def yX3_step : MethodName := ⟨RX3, "step", "()V"⟩
abbrev cX3_saveAtLatest : ByteArray := prog_5_method_7_code
def yX3_saveAtLatest : MethodName := ⟨RX3, "saveAtLatest", "()V"⟩
abbrev cX3_leave : ByteArray := prog_5_method_8_code
def yX3_leave : MethodName := ⟨RX3, "leave", "()V"⟩
abbrev cX3_behindBack : ByteArray := prog_5_method_9_code
def yX3_behindBack : MethodName := ⟨RX3, "behindBack", "(III)I"⟩
abbrev cX3_callerOf : ByteArray := prog_5_method_10_code
def yX3_callerOf : MethodName := ⟨RX3, "callerOf", "(II)I"⟩
abbrev cX3_catcherOf : ByteArray := prog_5_method_11_code
def yX3_catcherOf : MethodName := ⟨RX3, "catcherOf", "(I)I"⟩
abbrev cX3_deedAt : ByteArray := prog_5_method_12_code
def yX3_deedAt : MethodName := ⟨RX3, "deedAt", "(III)I"⟩
abbrev cX3_countFinishing : ByteArray := prog_5_method_13_code
def yX3_countFinishing : MethodName := ⟨RX3, "countFinishing", "(II)I"⟩
abbrev cX3_unwindTo : ByteArray := prog_5_method_14_code
def yX3_unwindTo : MethodName := ⟨RX3, "unwindTo", "(II)V"⟩
abbrev cX3_finishAtLatest : ByteArray := prog_5_method_15_code
def yX3_finishAtLatest : MethodName := ⟨RX3, "finishAtLatest", "(II)V"⟩
def RX4 : String := "RowUnwinder$Page"
def TX4 : u_T := fun k => match k with
  | 0 => ("RowUnwinder$Page", "codes", "[I", true)
  | _ => ("RowUnwinder$Page", "length", "I", false)
def tyX4 : Nat → FieldType := fun k => match k with
  | 0 => .array .int
  | _ => .int
abbrev wsX40 : List Cond := u_ws RX4 TX4 2
theorem nmX4 : ∀ a, a < 2 → ∀ b, b < 2 → a ≠ b → (TX4 a).2.1 ≠ (TX4 b).2.1 := by decide +kernel
theorem tyX4_ok : ∀ k, k < 2 → parseFieldDescriptor (TX4 k).2.2.1 = some (tyX4 k) := by decide +kernel
abbrev cX4_init : ByteArray := prog_6_method_1_code
def yX4_init : MethodName := ⟨RX4, "<init>", "()V"⟩
abbrev cX4_write : ByteArray := prog_6_method_2_code
def yX4_write : MethodName := ⟨RX4, "write", "(I)V"⟩
abbrev cX4_codeAt : ByteArray := prog_6_method_3_code
def yX4_codeAt : MethodName := ⟨RX4, "codeAt", "(I)I"⟩
abbrev cX4_digitAt : ByteArray := prog_6_method_4_code
def yX4_digitAt : MethodName := ⟨RX4, "digitAt", "(I)I"⟩
def RX5 : String := "RowUnwinder$Reader"
def TX5 : u_T := fun k => match k with
  | 0 => ("RowUnwinder$Reader", "due", "I", false)
  | 1 => ("RowUnwinder$Reader", "functions", "I", false)
  | 2 => ("RowUnwinder$Reader", "ops", "I", false)
  | 3 => ("RowUnwinder$Reader", "address", "I", false)
  | 4 => ("RowUnwinder$Reader", "remembered", "I", false)
  | 5 => ("RowUnwinder$Reader", "pads", "I", false)
  | _ => ("RowUnwinder$Reader", "from", "I", false)
def tyX5 : Nat → FieldType := fun k => match k with
  | 0 => .int
  | 1 => .int
  | 2 => .int
  | 3 => .int
  | 4 => .int
  | 5 => .int
  | _ => .int
abbrev wsX50 : List Cond := u_ws RX5 TX5 7
theorem nmX5 : ∀ a, a < 7 → ∀ b, b < 7 → a ≠ b → (TX5 a).2.1 ≠ (TX5 b).2.1 := by decide +kernel
theorem tyX5_ok : ∀ k, k < 7 → parseFieldDescriptor (TX5 k).2.2.1 = some (tyX5 k) := by decide +kernel
abbrev cX5_init : ByteArray := prog_7_method_1_code
def yX5_init : MethodName := ⟨RX5, "<init>", "()V"⟩
abbrev cX5_firstFault : ByteArray := prog_7_method_2_code
def yX5_firstFault : MethodName := ⟨RX5, "firstFault", "(LRowUnwinder$Page;)I"⟩
abbrev cX5_mayEnd : ByteArray := prog_7_method_3_code
def yX5_mayEnd : MethodName := ⟨RX5, "mayEnd", "()Z"⟩
abbrev cX5_takes : ByteArray := prog_7_method_4_code
def yX5_takes : MethodName := ⟨RX5, "takes", "(I)Z"⟩
abbrev cX5_takesOp : ByteArray := prog_7_method_5_code
def yX5_takesOp : MethodName := ⟨RX5, "takesOp", "(I)Z"⟩
abbrev cX5_takesOpLetter : ByteArray := prog_7_method_6_code
def yX5_takesOpLetter : MethodName := ⟨RX5, "takesOpLetter", "(I)Z"⟩
abbrev cX5_takesFarther : ByteArray := prog_7_method_7_code
def yX5_takesFarther : MethodName := ⟨RX5, "takesFarther", "(I)Z"⟩
abbrev cX5_takesDigit : ByteArray := prog_7_method_8_code
def yX5_takesDigit : MethodName := ⟨RX5, "takesDigit", "(IIII)Z"⟩
abbrev cX5_takesBetweenPads : ByteArray := prog_7_method_9_code
def yX5_takesBetweenPads : MethodName := ⟨RX5, "takesBetweenPads", "(I)Z"⟩
abbrev cX5_beginFunction : ByteArray := prog_7_method_10_code
def yX5_beginFunction : MethodName := ⟨RX5, "beginFunction", "()V"⟩
def RX6 : String := "RowUnwinder$Scribe"
def TX6 : u_T := fun k => match k with
  | 0 => ("RowUnwinder$Scribe", "page", "LRowUnwinder$Page;", true)
  | 1 => ("RowUnwinder$Scribe", "code", "LRowUnwinder$Code;", true)
  | 2 => ("RowUnwinder$Scribe", "saved", "[I", true)
  | 3 => ("RowUnwinder$Scribe", "remembered", "[I", true)
  | 4 => ("RowUnwinder$Scribe", "depth", "I", false)
  | 5 => ("RowUnwinder$Scribe", "place", "I", false)
  | 6 => ("RowUnwinder$Scribe", "address", "I", false)
  | _ => ("RowUnwinder$Scribe", "opAddress", "I", false)
def tyX6 : Nat → FieldType := fun k => match k with
  | 0 => .object "RowUnwinder$Page"
  | 1 => .object "RowUnwinder$Code"
  | 2 => .array .int
  | 3 => .array .int
  | 4 => .int
  | 5 => .int
  | 6 => .int
  | _ => .int
abbrev wsX60 : List Cond := u_ws RX6 TX6 8
theorem nmX6 : ∀ a, a < 8 → ∀ b, b < 8 → a ≠ b → (TX6 a).2.1 ≠ (TX6 b).2.1 := by decide +kernel
theorem tyX6_ok : ∀ k, k < 8 → parseFieldDescriptor (TX6 k).2.2.1 = some (tyX6 k) := by decide +kernel
abbrev cX6_init : ByteArray := prog_8_method_1_code
def yX6_init : MethodName := ⟨RX6, "<init>", "(LRowUnwinder$Page;LRowUnwinder$Code;)V"⟩
abbrev cX6_writeText : ByteArray := prog_8_method_2_code
def yX6_writeText : MethodName := ⟨RX6, "writeText", "()V"⟩
abbrev cX6_writeProgram : ByteArray := prog_8_method_3_code
def yX6_writeProgram : MethodName := ⟨RX6, "writeProgram", "(I)V"⟩
abbrev cX6_writeOp : ByteArray := prog_8_method_4_code
def yX6_writeOp : MethodName := ⟨RX6, "writeOp", "(I)V"⟩
abbrev cX6_save : ByteArray := prog_8_method_5_code
def yX6_save : MethodName := ⟨RX6, "save", "(III)V"⟩
abbrev cX6_free : ByteArray := prog_8_method_6_code
def yX6_free : MethodName := ⟨RX6, "free", "(I)V"⟩
abbrev cX6_rememberOrGoBack : ByteArray := prog_8_method_7_code
def yX6_rememberOrGoBack : MethodName := ⟨RX6, "rememberOrGoBack", "(I)V"⟩
abbrev cX6_writeRowsTo : ByteArray := prog_8_method_8_code
def yX6_writeRowsTo : MethodName := ⟨RX6, "writeRowsTo", "(II)V"⟩
abbrev cX6_writePads : ByteArray := prog_8_method_9_code
def yX6_writePads : MethodName := ⟨RX6, "writePads", "(I)V"⟩
def RX7 : String := "RowUnwinder$Sights"
def TX7 : u_T := fun k => match k with
  | 0 => ("RowUnwinder$Sights", "slots", "[I", true)
  | 1 => ("RowUnwinder$Sights", "types", "[I", true)
  | 2 => ("RowUnwinder$Sights", "deeds", "[I", true)
  | _ => ("RowUnwinder$Sights", "many", "I", false)
def tyX7 : Nat → FieldType := fun k => match k with
  | 0 => .array .int
  | 1 => .array .int
  | 2 => .array .int
  | _ => .int
abbrev wsX70 : List Cond := u_ws RX7 TX7 4
theorem nmX7 : ∀ a, a < 4 → ∀ b, b < 4 → a ≠ b → (TX7 a).2.1 ≠ (TX7 b).2.1 := by decide +kernel
theorem tyX7_ok : ∀ k, k < 4 → parseFieldDescriptor (TX7 k).2.2.1 = some (tyX7 k) := by decide +kernel
abbrev cX7_init : ByteArray := prog_9_method_1_code
def yX7_init : MethodName := ⟨RX7, "<init>", "()V"⟩
abbrev cX7_note : ByteArray := prog_9_method_2_code
def yX7_note : MethodName := ⟨RX7, "note", "(III)V"⟩
abbrev cX7_sortsOf : ByteArray := prog_9_method_3_code
def yX7_sortsOf : MethodName := ⟨RX7, "sortsOf", "(II)I"⟩
abbrev cX7_canBe : ByteArray := prog_9_method_4_code
def yX7_canBe : MethodName := ⟨RX7, "canBe", "(III)Z"⟩
abbrev cX7_become : ByteArray := prog_9_method_5_code
def yX7_become : MethodName := ⟨RX7, "become", "(LRowUnwinder$Sights;)V"⟩
def RX8 : String := "RowUnwinder"
def TX8 : u_T := fun k => match k with
  | 0 => ("RowUnwinder", "page", "LRowUnwinder$Page;", true)
  | 1 => ("RowUnwinder", "history", "LRowUnwinder$History;", true)
  | 2 => ("RowUnwinder", "keptHistory", "LRowUnwinder$History;", true)
  | 3 => ("RowUnwinder", "sights", "LRowUnwinder$Sights;", true)
  | 4 => ("RowUnwinder", "keptSights", "LRowUnwinder$Sights;", true)
  | 5 => ("RowUnwinder", "machine", "LRowUnwinder$Machine;", false)
  | 6 => ("RowUnwinder", "kept", "LRowUnwinder$Machine;", false)
  | _ => ("RowUnwinder", "textsRead", "I", false)
def tyX8 : Nat → FieldType := fun k => match k with
  | 0 => .object "RowUnwinder$Page"
  | 1 => .object "RowUnwinder$History"
  | 2 => .object "RowUnwinder$History"
  | 3 => .object "RowUnwinder$Sights"
  | 4 => .object "RowUnwinder$Sights"
  | 5 => .object "RowUnwinder$Machine"
  | 6 => .object "RowUnwinder$Machine"
  | _ => .int
abbrev wsX80 : List Cond := u_ws RX8 TX8 8
theorem nmX8 : ∀ a, a < 8 → ∀ b, b < 8 → a ≠ b → (TX8 a).2.1 ≠ (TX8 b).2.1 := by decide +kernel
theorem tyX8_ok : ∀ k, k < 8 → parseFieldDescriptor (TX8 k).2.2.1 = some (tyX8 k) := by decide +kernel
abbrev cX8_init : ByteArray := prog_1_method_1_code
def yX8_init : MethodName := ⟨RX8, "<init>", "()V"⟩
abbrev cX8_letter : ByteArray := prog_1_method_2_code
def yX8_letter : MethodName := ⟨RX8, "letter", "(I)I"⟩
abbrev cX8_blank : ByteArray := prog_1_method_3_code
def yX8_blank : MethodName := ⟨RX8, "blank", "()I"⟩
abbrev cX8_fault : ByteArray := prog_1_method_4_code
def yX8_fault : MethodName := ⟨RX8, "fault", "()I"⟩
abbrev cX8_text : ByteArray := prog_1_method_5_code
def yX8_text : MethodName := ⟨RX8, "text", "()I"⟩
abbrev cX8_row : ByteArray := prog_1_method_6_code
def yX8_row : MethodName := ⟨RX8, "row", "(III)I"⟩
abbrev cX8_pad : ByteArray := prog_1_method_7_code
def yX8_pad : MethodName := ⟨RX8, "pad", "(III)I"⟩
abbrev cX8_as : ByteArray := prog_1_method_8_code
def yX8_as : MethodName := ⟨RX8, "as", "(III)I"⟩
abbrev cX8_frame : ByteArray := prog_1_method_9_code
def yX8_frame : MethodName := ⟨RX8, "frame", "(II)I"⟩
abbrev cX8_register : ByteArray := prog_1_method_10_code
def yX8_register : MethodName := ⟨RX8, "register", "(I)I"⟩
abbrev cX8_call : ByteArray := prog_1_method_11_code
def yX8_call : MethodName := ⟨RX8, "call", "(I)I"⟩
abbrev cX8_go : ByteArray := prog_1_method_12_code
def yX8_go : MethodName := ⟨RX8, "go", "(I)I"⟩
abbrev cX8_set : ByteArray := prog_1_method_13_code
def yX8_set : MethodName := ⟨RX8, "set", "(II)I"⟩
abbrev cX8_back : ByteArray := prog_1_method_14_code
def yX8_back : MethodName := ⟨RX8, "back", "()I"⟩
abbrev cX8_raise : ByteArray := prog_1_method_15_code
def yX8_raise : MethodName := ⟨RX8, "raise", "(I)I"⟩
abbrev cX8_change : ByteArray := prog_1_method_16_code
def yX8_change : MethodName := ⟨RX8, "change", "(III)I"⟩
abbrev cX8_undo : ByteArray := prog_1_method_17_code
def yX8_undo : MethodName := ⟨RX8, "undo", "()I"⟩
abbrev cX8_search : ByteArray := prog_1_method_18_code
def yX8_search : MethodName := ⟨RX8, "search", "(II)I"⟩
abbrev cX8_loose : ByteArray := prog_1_method_19_code
def yX8_loose : MethodName := ⟨RX8, "loose", "()I"⟩
abbrev cX8_finished : ByteArray := prog_1_method_20_code
def yX8_finished : MethodName := ⟨RX8, "finished", "(I)I"⟩
abbrev cX8_same : ByteArray := prog_1_method_21_code
def yX8_same : MethodName := ⟨RX8, "same", "(II)I"⟩
abbrev cX8_see : ByteArray := prog_1_method_22_code
def yX8_see : MethodName := ⟨RX8, "see", "(IIII)I"⟩
abbrev cX8_forget : ByteArray := prog_1_method_23_code
def yX8_forget : MethodName := ⟨RX8, "forget", "()I"⟩
abbrev cX8_drawn : ByteArray := prog_1_method_24_code
def yX8_drawn : MethodName := ⟨RX8, "drawn", "(III)I"⟩
abbrev cX8_image : ByteArray := prog_1_method_25_code
def yX8_image : MethodName := ⟨RX8, "image", "()I"⟩
abbrev cX8_restore : ByteArray := prog_1_method_26_code
def yX8_restore : MethodName := ⟨RX8, "restore", "()I"⟩
abbrev cX8_count : ByteArray := prog_1_method_27_code
def yX8_count : MethodName := ⟨RX8, "count", "(I)I"⟩
abbrev cX8_digest : ByteArray := prog_1_method_28_code
def yX8_digest : MethodName := ⟨RX8, "digest", "()J"⟩
abbrev cX8_digestFunction : ByteArray := prog_1_method_29_code
def yX8_digestFunction : MethodName := ⟨RX8, "digestFunction", "(JI)J"⟩
abbrev cX8_digestThrowing : ByteArray := prog_1_method_30_code
def yX8_digestThrowing : MethodName := ⟨RX8, "digestThrowing", "(J)J"⟩
abbrev cX8_folded : ByteArray := prog_1_method_31_code
def yX8_folded : MethodName := ⟨RX8, "folded", "(JJ)J"⟩
abbrev cX8_hasText : ByteArray := prog_1_method_32_code
def yX8_hasText : MethodName := ⟨RX8, "hasText", "()Z"⟩
abbrev cX8_isFunction : ByteArray := prog_1_method_33_code
def yX8_isFunction : MethodName := ⟨RX8, "isFunction", "(I)Z"⟩
abbrev cX8_isPad : ByteArray := prog_1_method_34_code
def yX8_isPad : MethodName := ⟨RX8, "isPad", "(II)Z"⟩
abbrev cX8_beginDoing : ByteArray := prog_1_method_35_code
def yX8_beginDoing : MethodName := ⟨RX8, "beginDoing", "()V"⟩
abbrev cX8_isBelow : ByteArray := prog_1_method_36_code
def yX8_isBelow : MethodName := ⟨RX8, "isBelow", "(II)Z"⟩
abbrev cX8_slot : ByteArray := prog_1_method_37_code
def yX8_slot : MethodName := ⟨RX8, "slot", "(II)I"⟩
abbrev cX8_kindOfLetter : ByteArray := prog_1_method_38_code
def yX8_kindOfLetter : MethodName := ⟨RX8, "kindOfLetter", "(I)I"⟩
abbrev cX8_isOfKind : ByteArray := prog_1_method_39_code
def yX8_isOfKind : MethodName := ⟨RX8, "isOfKind", "(II)Z"⟩
abbrev cX8_deedOf : ByteArray := prog_1_method_40_code
def yX8_deedOf : MethodName := ⟨RX8, "deedOf", "(III)I"⟩
abbrev cX8_bestToThrow : ByteArray := prog_1_method_41_code
def yX8_bestToThrow : MethodName := ⟨RX8, "bestToThrow", "(II)I"⟩
abbrev cX8_leftAtWorst : ByteArray := prog_1_method_42_code
def yX8_leftAtWorst : MethodName := ⟨RX8, "leftAtWorst", "(III)I"⟩
def RX9 : String := "RowUnwinderModel"
def TX9 : u_T := fun k => match k with
  | 0 => ("RowUnwinderModel", "page", "[I", true)
  | 1 => ("RowUnwinderModel", "pageMany", "I", false)
  | 2 => ("RowUnwinderModel", "readMany", "I", false)
  | 3 => ("RowUnwinderModel", "readOps", "I", false)
  | 4 => ("RowUnwinderModel", "readPads", "I", false)
  | 5 => ("RowUnwinderModel", "readIsPads", "Z", false)
  | 6 => ("RowUnwinderModel", "readPlace", "I", false)
  | 7 => ("RowUnwinderModel", "readOp", "I", false)
  | 8 => ("RowUnwinderModel", "readAddress", "I", false)
  | 9 => ("RowUnwinderModel", "readLying", "I", false)
  | 10 => ("RowUnwinderModel", "readOpMany", "[I", true)
  | 11 => ("RowUnwinderModel", "readPadMany", "[I", true)
  | 12 => ("RowUnwinderModel", "readOpAll", "[I", true)
  | 13 => ("RowUnwinderModel", "readPadAll", "[I", true)
  | 14 => ("RowUnwinderModel", "functions", "I", false)
  | 15 => ("RowUnwinderModel", "textsRead", "I", false)
  | 16 => ("RowUnwinderModel", "saved", "[I", true)
  | 17 => ("RowUnwinderModel", "lying", "[I", true)
  | 18 => ("RowUnwinderModel", "changedAt", "[I", true)
  | 19 => ("RowUnwinderModel", "opMany", "[I", true)
  | 20 => ("RowUnwinderModel", "padMany", "[I", true)
  | 21 => ("RowUnwinderModel", "ops", "[I", true)
  | 22 => ("RowUnwinderModel", "pads", "[I", true)
  | 23 => ("RowUnwinderModel", "rows", "[I", true)
  | 24 => ("RowUnwinderModel", "rowsLying", "I", false)
  | 25 => ("RowUnwinderModel", "now", "[I", true)
  | 26 => ("RowUnwinderModel", "undone", "[I", true)
  | 27 => ("RowUnwinderModel", "undoMany", "I", false)
  | 28 => ("RowUnwinderModel", "catcher", "I", false)
  | 29 => ("RowUnwinderModel", "catcherPad", "I", false)
  | 30 => ("RowUnwinderModel", "finishers", "I", false)
  | 31 => ("RowUnwinderModel", "seenMany", "I", false)
  | 32 => ("RowUnwinderModel", "sights", "[I", true)
  | 33 => ("RowUnwinderModel", "seedNow", "I", false)
  | 34 => ("RowUnwinderModel", "then", "[I", true)
  | 35 => ("RowUnwinderModel", "keptText", "I", false)
  | 36 => ("RowUnwinderModel", "keptUndo", "I", false)
  | 37 => ("RowUnwinderModel", "keptSeen", "I", false)
  | 38 => ("RowUnwinderModel", "keptNow", "[I", true)
  | 39 => ("RowUnwinderModel", "keptUndone", "[I", true)
  | 40 => ("RowUnwinderModel", "keptSights", "[I", true)
  | _ => ("RowUnwinderModel", "hash", "J", false)
def tyX9 : Nat → FieldType := fun k => match k with
  | 0 => .array .int
  | 1 => .int
  | 2 => .int
  | 3 => .int
  | 4 => .int
  | 5 => .boolean
  | 6 => .int
  | 7 => .int
  | 8 => .int
  | 9 => .int
  | 10 => .array .int
  | 11 => .array .int
  | 12 => .array .int
  | 13 => .array .int
  | 14 => .int
  | 15 => .int
  | 16 => .array .int
  | 17 => .array .int
  | 18 => .array .int
  | 19 => .array .int
  | 20 => .array .int
  | 21 => .array .int
  | 22 => .array .int
  | 23 => .array .int
  | 24 => .int
  | 25 => .array .int
  | 26 => .array .int
  | 27 => .int
  | 28 => .int
  | 29 => .int
  | 30 => .int
  | 31 => .int
  | 32 => .array .int
  | 33 => .int
  | 34 => .array .int
  | 35 => .int
  | 36 => .int
  | 37 => .int
  | 38 => .array .int
  | 39 => .array .int
  | 40 => .array .int
  | _ => .long
abbrev wsX90 : List Cond := u_ws RX9 TX9 42
theorem nmX9 : ∀ a, a < 42 → ∀ b, b < 42 → a ≠ b → (TX9 a).2.1 ≠ (TX9 b).2.1 := by decide +kernel
theorem tyX9_ok : ∀ k, k < 42 → parseFieldDescriptor (TX9 k).2.2.1 = some (tyX9 k) := by decide +kernel
abbrev cX9_init : ByteArray := prog_11_method_1_code
def yX9_init : MethodName := ⟨RX9, "<init>", "()V"⟩
abbrev cX9_in : ByteArray := prog_11_method_2_code
def yX9_in : MethodName := ⟨RX9, "in", "(JJJ)Z"⟩
abbrev cX9_letter : ByteArray := prog_11_method_3_code
def yX9_letter : MethodName := ⟨RX9, "letter", "(I)I"⟩
abbrev cX9_blank : ByteArray := prog_11_method_4_code
def yX9_blank : MethodName := ⟨RX9, "blank", "()I"⟩
abbrev cX9_kindBy : ByteArray := prog_11_method_5_code
def yX9_kindBy : MethodName := ⟨RX9, "kindBy", "(I)I"⟩
abbrev cX9_beginFunction : ByteArray := prog_11_method_6_code
def yX9_beginFunction : MethodName := ⟨RX9, "beginFunction", "()V"⟩
abbrev cX9_digitsOf : ByteArray := prog_11_method_7_code
def yX9_digitsOf : MethodName := ⟨RX9, "digitsOf", "(I)I"⟩
abbrev cX9_endOp : ByteArray := prog_11_method_8_code
def yX9_endOp : MethodName := ⟨RX9, "endOp", "()V"⟩
abbrev cX9_isOpBegun : ByteArray := prog_11_method_9_code
def yX9_isOpBegun : MethodName := ⟨RX9, "isOpBegun", "(I)Z"⟩
abbrev cX9_isOpDigit : ByteArray := prog_11_method_10_code
def yX9_isOpDigit : MethodName := ⟨RX9, "isOpDigit", "(I)Z"⟩
abbrev cX9_isPadBegun : ByteArray := prog_11_method_11_code
def yX9_isPadBegun : MethodName := ⟨RX9, "isPadBegun", "(I)Z"⟩
abbrev cX9_isPadDigit : ByteArray := prog_11_method_12_code
def yX9_isPadDigit : MethodName := ⟨RX9, "isPadDigit", "(I)Z"⟩
abbrev cX9_isGood : ByteArray := prog_11_method_13_code
def yX9_isGood : MethodName := ⟨RX9, "isGood", "(I)Z"⟩
abbrev cX9_faultOf : ByteArray := prog_11_method_14_code
def yX9_faultOf : MethodName := ⟨RX9, "faultOf", "()I"⟩
abbrev cX9_fault : ByteArray := prog_11_method_15_code
def yX9_fault : MethodName := ⟨RX9, "fault", "()I"⟩
abbrev cX9_copy : ByteArray := prog_11_method_16_code
def yX9_copy : MethodName := ⟨RX9, "copy", "([I[I)V"⟩
abbrev cX9_doOp : ByteArray := prog_11_method_17_code
def yX9_doOp : MethodName := ⟨RX9, "doOp", "(II)V"⟩
abbrev cX9_layFunction : ByteArray := prog_11_method_18_code
def yX9_layFunction : MethodName := ⟨RX9, "layFunction", "(I)V"⟩
abbrev cX9_text : ByteArray := prog_11_method_19_code
def yX9_text : MethodName := ⟨RX9, "text", "()I"⟩
abbrev cX9_lacks : ByteArray := prog_11_method_20_code
def yX9_lacks : MethodName := ⟨RX9, "lacks", "()Z"⟩
abbrev cX9_isFunction : ByteArray := prog_11_method_21_code
def yX9_isFunction : MethodName := ⟨RX9, "isFunction", "(I)Z"⟩
abbrev cX9_isPad : ByteArray := prog_11_method_22_code
def yX9_isPad : MethodName := ⟨RX9, "isPad", "(II)Z"⟩
abbrev cX9_keep : ByteArray := prog_11_method_23_code
def yX9_keep : MethodName := ⟨RX9, "keep", "()V"⟩
abbrev cX9_undo : ByteArray := prog_11_method_24_code
def yX9_undo : MethodName := ⟨RX9, "undo", "()I"⟩
abbrev cX9_frames : ByteArray := prog_11_method_25_code
def yX9_frames : MethodName := ⟨RX9, "frames", "()I"⟩
abbrev cX9_frameAt : ByteArray := prog_11_method_26_code
def yX9_frameAt : MethodName := ⟨RX9, "frameAt", "(I)I"⟩
abbrev cX9_saveAt : ByteArray := prog_11_method_27_code
def yX9_saveAt : MethodName := ⟨RX9, "saveAt", "(I)V"⟩
abbrev cX9_doCall : ByteArray := prog_11_method_28_code
def yX9_doCall : MethodName := ⟨RX9, "doCall", "(I)V"⟩
abbrev cX9_doGo : ByteArray := prog_11_method_29_code
def yX9_doGo : MethodName := ⟨RX9, "doGo", "(I)V"⟩
abbrev cX9_doBack : ByteArray := prog_11_method_30_code
def yX9_doBack : MethodName := ⟨RX9, "doBack", "()V"⟩
abbrev cX9_call : ByteArray := prog_11_method_31_code
def yX9_call : MethodName := ⟨RX9, "call", "(I)I"⟩
abbrev cX9_go : ByteArray := prog_11_method_32_code
def yX9_go : MethodName := ⟨RX9, "go", "(I)I"⟩
abbrev cX9_set : ByteArray := prog_11_method_33_code
def yX9_set : MethodName := ⟨RX9, "set", "(II)I"⟩
abbrev cX9_back : ByteArray := prog_11_method_34_code
def yX9_back : MethodName := ⟨RX9, "back", "()I"⟩
abbrev cX9_isCatching : ByteArray := prog_11_method_35_code
def yX9_isCatching : MethodName := ⟨RX9, "isCatching", "(III)Z"⟩
abbrev cX9_does : ByteArray := prog_11_method_36_code
def yX9_does : MethodName := ⟨RX9, "does", "(III)I"⟩
abbrev cX9_doesAt : ByteArray := prog_11_method_37_code
def yX9_doesAt : MethodName := ⟨RX9, "doesAt", "(IIII)I"⟩
abbrev cX9_layCatcher : ByteArray := prog_11_method_38_code
def yX9_layCatcher : MethodName := ⟨RX9, "layCatcher", "(I)V"⟩
abbrev cX9_searchOf : ByteArray := prog_11_method_39_code
def yX9_searchOf : MethodName := ⟨RX9, "searchOf", "(II)I"⟩
abbrev cX9_search : ByteArray := prog_11_method_40_code
def yX9_search : MethodName := ⟨RX9, "search", "(II)I"⟩
abbrev cX9_finish : ByteArray := prog_11_method_41_code
def yX9_finish : MethodName := ⟨RX9, "finish", "(II)V"⟩
abbrev cX9_doRaise : ByteArray := prog_11_method_42_code
def yX9_doRaise : MethodName := ⟨RX9, "doRaise", "(I)V"⟩
abbrev cX9_raise : ByteArray := prog_11_method_43_code
def yX9_raise : MethodName := ⟨RX9, "raise", "(I)I"⟩
abbrev cX9_looseOf : ByteArray := prog_11_method_44_code
def yX9_looseOf : MethodName := ⟨RX9, "looseOf", "()I"⟩
abbrev cX9_loose : ByteArray := prog_11_method_45_code
def yX9_loose : MethodName := ⟨RX9, "loose", "()I"⟩
abbrev cX9_finished : ByteArray := prog_11_method_46_code
def yX9_finished : MethodName := ⟨RX9, "finished", "(I)I"⟩
abbrev cX9_change : ByteArray := prog_11_method_47_code
def yX9_change : MethodName := ⟨RX9, "change", "(III)I"⟩
abbrev cX9_tellRow : ByteArray := prog_11_method_48_code
def yX9_tellRow : MethodName := ⟨RX9, "tellRow", "(III)I"⟩
abbrev cX9_row : ByteArray := prog_11_method_49_code
def yX9_row : MethodName := ⟨RX9, "row", "(III)I"⟩
abbrev cX9_tellPad : ByteArray := prog_11_method_50_code
def yX9_tellPad : MethodName := ⟨RX9, "tellPad", "(III)I"⟩
abbrev cX9_pad : ByteArray := prog_11_method_51_code
def yX9_pad : MethodName := ⟨RX9, "pad", "(III)I"⟩
abbrev cX9_as : ByteArray := prog_11_method_52_code
def yX9_as : MethodName := ⟨RX9, "as", "(III)I"⟩
abbrev cX9_callerOf : ByteArray := prog_11_method_53_code
def yX9_callerOf : MethodName := ⟨RX9, "callerOf", "(II)I"⟩
abbrev cX9_tellFrame : ByteArray := prog_11_method_54_code
def yX9_tellFrame : MethodName := ⟨RX9, "tellFrame", "(II)I"⟩
abbrev cX9_frame : ByteArray := prog_11_method_55_code
def yX9_frame : MethodName := ⟨RX9, "frame", "(II)I"⟩
abbrev cX9_register : ByteArray := prog_11_method_56_code
def yX9_register : MethodName := ⟨RX9, "register", "(I)I"⟩
abbrev cX9_same : ByteArray := prog_11_method_57_code
def yX9_same : MethodName := ⟨RX9, "same", "(II)I"⟩
abbrev cX9_see : ByteArray := prog_11_method_58_code
def yX9_see : MethodName := ⟨RX9, "see", "(IIII)I"⟩
abbrev cX9_forget : ByteArray := prog_11_method_59_code
def yX9_forget : MethodName := ⟨RX9, "forget", "()I"⟩
abbrev cX9_sortsOf : ByteArray := prog_11_method_60_code
def yX9_sortsOf : MethodName := ⟨RX9, "sortsOf", "(II)I"⟩
abbrev cX9_askOf : ByteArray := prog_11_method_61_code
def yX9_askOf : MethodName := ⟨RX9, "askOf", "(II)I"⟩
abbrev cX9_draw : ByteArray := prog_11_method_62_code
def yX9_draw : MethodName := ⟨RX9, "draw", "(I)I"⟩
abbrev cX9_drawCall : ByteArray := prog_11_method_63_code
def yX9_drawCall : MethodName := ⟨RX9, "drawCall", "()V"⟩
abbrev cX9_drawGo : ByteArray := prog_11_method_64_code
def yX9_drawGo : MethodName := ⟨RX9, "drawGo", "()V"⟩
abbrev cX9_drawSet : ByteArray := prog_11_method_65_code
def yX9_drawSet : MethodName := ⟨RX9, "drawSet", "()V"⟩
abbrev cX9_drawRaise : ByteArray := prog_11_method_66_code
def yX9_drawRaise : MethodName := ⟨RX9, "drawRaise", "()I"⟩
abbrev cX9_drawOne : ByteArray := prog_11_method_67_code
def yX9_drawOne : MethodName := ⟨RX9, "drawOne", "()I"⟩
abbrev cX9_drawn : ByteArray := prog_11_method_68_code
def yX9_drawn : MethodName := ⟨RX9, "drawn", "(III)I"⟩
abbrev cX9_image : ByteArray := prog_11_method_69_code
def yX9_image : MethodName := ⟨RX9, "image", "()I"⟩
abbrev cX9_restore : ByteArray := prog_11_method_70_code
def yX9_restore : MethodName := ⟨RX9, "restore", "()I"⟩
abbrev cX9_padsAll : ByteArray := prog_11_method_71_code
def yX9_padsAll : MethodName := ⟨RX9, "padsAll", "()I"⟩
abbrev cX9_savedMany : ByteArray := prog_11_method_72_code
def yX9_savedMany : MethodName := ⟨RX9, "savedMany", "()I"⟩
abbrev cX9_countOf : ByteArray := prog_11_method_73_code
def yX9_countOf : MethodName := ⟨RX9, "countOf", "(I)I"⟩
abbrev cX9_count : ByteArray := prog_11_method_74_code
def yX9_count : MethodName := ⟨RX9, "count", "(I)I"⟩
abbrev cX9_say : ByteArray := prog_11_method_75_code
def yX9_say : MethodName := ⟨RX9, "say", "(J)V"⟩
abbrev cX9_sayFunction : ByteArray := prog_11_method_76_code
def yX9_sayFunction : MethodName := ⟨RX9, "sayFunction", "(I)V"⟩
abbrev cX9_sayText : ByteArray := prog_11_method_77_code
def yX9_sayText : MethodName := ⟨RX9, "sayText", "()V"⟩
abbrev cX9_digest : ByteArray := prog_11_method_78_code
def yX9_digest : MethodName := ⟨RX9, "digest", "()J"⟩
def RJx8e188 : String := "java/lang/Cloneable"
def RJ9 : String := "java/lang/Math"
abbrev cJ9_max_7cf53 : ByteArray := prog_13_method_65_code
def yJ9_max_7cf53 : MethodName := ⟨RJ9, "max", "(II)I"⟩
abbrev cJ9_min_7cf53 : ByteArray := prog_13_method_69_code
def yJ9_min_7cf53 : MethodName := ⟨RJ9, "min", "(II)I"⟩
def RJ10 : String := "java/lang/System"
def RJ7 : String := "java/util/Arrays"
abbrev cJ7_fill_53178 : ByteArray := prog_15_method_103_code
def yJ7_fill_53178 : MethodName := ⟨RJ7, "fill", "([II)V"⟩
def RL : String := "RowUnwinderLaw"
abbrev cL_law : ByteArray := code
def yL_law : MethodName := ⟨RL, "law", "([I)Z"⟩
end
section
abbrev px_K : Type := Instr × (Nat × (Nat × (Nat × Int)))
def px_t0 : List (Nat × px_K) := [(0, .aload_n 0, 1, 0, 0, 0), (1, .invokespecial 3, 3, 1000, 0, 0), (4, .aload_n 0, 1, 0, 0, 0), (5, .iconst 0, 1, 0, 0, 0), (6, .putfield 9, 3, 0, 0, 0), (9, .aload_n 0, 1, 0, 0, 0), (10, .sipush 180, 3, 0, 0, 0), (13, .newarray .int, 2, 0, 0, 0), (15, .putfield 15, 3, 0, 1, 0), (18, .aload_n 0, 1, 0, 0, 0), (19, .bipush 72, 2, 0, 0, 0), (21, .newarray .int, 2, 0, 0, 0), (23, .putfield 19, 3, 0, 2, 0), (26, .aload_n 0, 1, 0, 0, 0), (27, .iconst 3, 1, 0, 0, 0), (28, .newarray .int, 2, 0, 0, 0), (30, .putfield 22, 3, 0, 3, 0), (33, .aload_n 0, 1, 0, 0, 0), (34, .bipush 45, 2, 0, 0, 0), (36, .newarray .int, 2, 0, 0, 0), (38, .putfield 25, 3, 0, 4, 0), (41, .aload_n 0, 1, 0, 0, 0), (42, .iconst 3, 1, 0, 0, 0), (43, .newarray .int, 2, 0, 0, 0), (45, .putfield 28, 3, 0, 5, 0), (48, .return_, 1, 0, 0, 0)]
def px_t1 : List (Nat × px_K) := [(0, .aload_n 0, 1, 0, 0, 0), (1, .getfield 15, 3, 0, 1, 0), (4, .iload_n 1, 1, 0, 0, 0), (5, .bipush 10, 2, 0, 0, 0), (7, .imul, 1, 0, 0, 0), (8, .iload_n 2, 1, 0, 0, 0), (9, .iadd, 1, 0, 0, 0), (10, .bipush 6, 2, 0, 0, 0), (12, .imul, 1, 0, 0, 0), (13, .iload_n 3, 1, 0, 0, 0), (14, .iadd, 1, 0, 0, 0), (15, .iaload, 1, 0, 0, 0), (16, .ireturn, 1, 0, 0, 0)]
def px_t2 : List (Nat × px_K) := [(0, .aload_n 0, 1, 0, 0, 0), (1, .getfield 15, 3, 0, 1, 0), (4, .iload_n 1, 1, 0, 0, 0), (5, .bipush 10, 2, 0, 0, 0), (7, .imul, 1, 0, 0, 0), (8, .iload_n 2, 1, 0, 0, 0), (9, .iadd, 1, 0, 0, 0), (10, .bipush 6, 2, 0, 0, 0), (12, .imul, 1, 0, 0, 0), (13, .iload_n 3, 1, 0, 0, 0), (14, .iadd, 1, 0, 0, 0), (15, .iload 4, 2, 0, 0, 0), (17, .iastore, 1, 0, 0, 0), (18, .return_, 1, 0, 0, 0)]
def px_t3 : List (Nat × px_K) := [(0, .aload_n 0, 1, 0, 0, 0), (1, .getfield 28, 3, 0, 5, 0), (4, .iload_n 1, 1, 0, 0, 0), (5, .iaload, 1, 0, 0, 0), (6, .ireturn, 1, 0, 0, 0)]
def px_t4 : List (Nat × px_K) := [(0, .aload_n 0, 1, 0, 0, 0), (1, .getfield 28, 3, 0, 5, 0), (4, .iload_n 1, 1, 0, 0, 0), (5, .iload_n 2, 1, 0, 0, 0), (6, .iastore, 1, 0, 0, 0), (7, .return_, 1, 0, 0, 0)]
def px_t5 : List (Nat × px_K) := [(0, .aload_n 0, 1, 0, 0, 0), (1, .getfield 25, 3, 0, 4, 0), (4, .iload_n 1, 1, 0, 0, 0), (5, .iconst 3, 1, 0, 0, 0), (6, .imul, 1, 0, 0, 0), (7, .iload_n 2, 1, 0, 0, 0), (8, .iadd, 1, 0, 0, 0), (9, .iconst 5, 1, 0, 0, 0), (10, .imul, 1, 0, 0, 0), (11, .iload_n 3, 1, 0, 0, 0), (12, .iadd, 1, 0, 0, 0), (13, .iaload, 1, 0, 0, 0), (14, .ireturn, 1, 0, 0, 0)]
def px_t6 : List (Nat × px_K) := [(0, .aload_n 0, 1, 0, 0, 0), (1, .getfield 25, 3, 0, 4, 0), (4, .iload_n 1, 1, 0, 0, 0), (5, .iconst 3, 1, 0, 0, 0), (6, .imul, 1, 0, 0, 0), (7, .iload_n 2, 1, 0, 0, 0), (8, .iadd, 1, 0, 0, 0), (9, .iconst 5, 1, 0, 0, 0), (10, .imul, 1, 0, 0, 0), (11, .iload_n 3, 1, 0, 0, 0), (12, .iadd, 1, 0, 0, 0), (13, .iload 4, 2, 0, 0, 0), (15, .iastore, 1, 0, 0, 0), (16, .return_, 1, 0, 0, 0)]
def px_t7 : List (Nat × px_K) := [(0, .aload_n 0, 1, 0, 0, 0), (1, .getfield 22, 3, 0, 3, 0), (4, .iload_n 1, 1, 0, 0, 0), (5, .iaload, 1, 0, 0, 0), (6, .ireturn, 1, 0, 0, 0)]
def px_t8 : List (Nat × px_K) := [(0, .aload_n 0, 1, 0, 0, 0), (1, .getfield 19, 3, 0, 2, 0), (4, .iload_n 1, 1, 0, 0, 0), (5, .bipush 8, 2, 0, 0, 0), (7, .imul, 1, 0, 0, 0), (8, .iload_n 2, 1, 0, 0, 0), (9, .iadd, 1, 0, 0, 0), (10, .iconst 3, 1, 0, 0, 0), (11, .imul, 1, 0, 0, 0), (12, .iaload, 1, 0, 0, 0), (13, .ireturn, 1, 0, 0, 0)]
def px_t9 : List (Nat × px_K) := [(0, .aload_n 0, 1, 0, 0, 0), (1, .getfield 19, 3, 0, 2, 0), (4, .iload_n 1, 1, 0, 0, 0), (5, .bipush 8, 2, 0, 0, 0), (7, .imul, 1, 0, 0, 0), (8, .iload_n 2, 1, 0, 0, 0), (9, .iadd, 1, 0, 0, 0), (10, .iconst 3, 1, 0, 0, 0), (11, .imul, 1, 0, 0, 0), (12, .iconst 1, 1, 0, 0, 0), (13, .iadd, 1, 0, 0, 0), (14, .iaload, 1, 0, 0, 0), (15, .ireturn, 1, 0, 0, 0)]
def px_t10 : List (Nat × px_K) := [(0, .aload_n 0, 1, 0, 0, 0), (1, .getfield 19, 3, 0, 2, 0), (4, .iload_n 1, 1, 0, 0, 0), (5, .bipush 8, 2, 0, 0, 0), (7, .imul, 1, 0, 0, 0), (8, .iload_n 2, 1, 0, 0, 0), (9, .iadd, 1, 0, 0, 0), (10, .iconst 3, 1, 0, 0, 0), (11, .imul, 1, 0, 0, 0), (12, .iconst 2, 1, 0, 0, 0), (13, .iadd, 1, 0, 0, 0), (14, .iaload, 1, 0, 0, 0), (15, .ireturn, 1, 0, 0, 0)]
def px_t11 : List (Nat × px_K) := [(0, .aload_n 0, 1, 0, 0, 0), (1, .getfield 22, 3, 0, 3, 0), (4, .iload_n 1, 1, 0, 0, 0), (5, .iaload, 1, 0, 0, 0), (6, .bipush 8, 2, 0, 0, 0), (8, .if_icmp .lt 4, 3, 0, 0, 0), (11, .return_, 1, 0, 0, 0), (12, .iload_n 1, 1, 0, 0, 0), (13, .bipush 8, 2, 0, 0, 0), (15, .imul, 1, 0, 0, 0), (16, .aload_n 0, 1, 0, 0, 0), (17, .getfield 22, 3, 0, 3, 0), (20, .iload_n 1, 1, 0, 0, 0), (21, .iaload, 1, 0, 0, 0), (22, .iadd, 1, 0, 0, 0), (23, .iconst 3, 1, 0, 0, 0), (24, .imul, 1, 0, 0, 0), (25, .istore 5, 2, 0, 0, 0), (27, .aload_n 0, 1, 0, 0, 0), (28, .getfield 19, 3, 0, 2, 0), (31, .iload 5, 2, 0, 0, 0), (33, .iload_n 2, 1, 0, 0, 0), (34, .iastore, 1, 0, 0, 0), (35, .aload_n 0, 1, 0, 0, 0), (36, .getfield 19, 3, 0, 2, 0), (39, .iload 5, 2, 0, 0, 0), (41, .iconst 1, 1, 0, 0, 0), (42, .iadd, 1, 0, 0, 0), (43, .iload_n 3, 1, 0, 0, 0), (44, .iastore, 1, 0, 0, 0), (45, .aload_n 0, 1, 0, 0, 0), (46, .getfield 19, 3, 0, 2, 0), (49, .iload 5, 2, 0, 0, 0), (51, .iconst 2, 1, 0, 0, 0), (52, .iadd, 1, 0, 0, 0), (53, .iload 4, 2, 0, 0, 0), (55, .iastore, 1, 0, 0, 0), (56, .aload_n 0, 1, 0, 0, 0), (57, .getfield 22, 3, 0, 3, 0), (60, .iload_n 1, 1, 0, 0, 0), (61, .dup2, 1, 0, 0, 0), (62, .iaload, 1, 0, 0, 0), (63, .iconst 1, 1, 0, 0, 0), (64, .iadd, 1, 0, 0, 0), (65, .iastore, 1, 0, 0, 0), (66, .return_, 1, 0, 0, 0)]
def px_t12 : List (Nat × px_K) := [(0, .iconst 0, 1, 0, 0, 0), (1, .istore_n 1, 1, 0, 0, 0), (2, .iconst 0, 1, 0, 0, 0), (3, .istore_n 2, 1, 0, 0, 0), (4, .iload_n 2, 1, 0, 0, 0), (5, .aload_n 0, 1, 0, 0, 0), (6, .getfield 9, 3, 0, 0, 0), (9, .if_icmp .ge 18, 3, 0, 0, 0), (12, .iload_n 1, 1, 0, 0, 0), (13, .aload_n 0, 1, 0, 0, 0), (14, .getfield 28, 3, 0, 5, 0), (17, .iload_n 2, 1, 0, 0, 0), (18, .iaload, 1, 0, 0, 0), (19, .iadd, 1, 0, 0, 0), (20, .istore_n 1, 1, 0, 0, 0), (21, .iinc 2 1, 3, 0, 0, 0), (24, .goto (-20), 3, 0, 0, 0), (27, .iload_n 1, 1, 0, 0, 0), (28, .ireturn, 1, 0, 0, 0)]
def px_t13 : List (Nat × px_K) := [(0, .iconst 0, 1, 0, 0, 0), (1, .istore_n 1, 1, 0, 0, 0), (2, .iconst 0, 1, 0, 0, 0), (3, .istore_n 2, 1, 0, 0, 0), (4, .iload_n 2, 1, 0, 0, 0), (5, .aload_n 0, 1, 0, 0, 0), (6, .getfield 9, 3, 0, 0, 0), (9, .if_icmp .ge 35, 3, 0, 0, 0), (12, .iconst 0, 1, 0, 0, 0), (13, .istore_n 3, 1, 0, 0, 0), (14, .iload_n 3, 1, 0, 0, 0), (15, .bipush 10, 2, 0, 0, 0), (17, .if_icmp .ge 21, 3, 0, 0, 0), (20, .aload_n 0, 1, 0, 0, 0), (21, .iload_n 2, 1, 0, 0, 0), (22, .iload_n 3, 1, 0, 0, 0), (23, .invokevirtual 31, 3, 14, 2, 0), (26, .ifCond .eq 6, 3, 0, 0, 0), (29, .iinc 1 1, 3, 0, 0, 0), (32, .iinc 3 1, 3, 0, 0, 0), (35, .goto (-21), 3, 0, 0, 0), (38, .iinc 2 1, 3, 0, 0, 0), (41, .goto (-37), 3, 0, 0, 0), (44, .iload_n 1, 1, 0, 0, 0), (45, .ireturn, 1, 0, 0, 0)]
def px_t14 : List (Nat × px_K) := [(0, .iconst 0, 1, 0, 0, 0), (1, .istore_n 3, 1, 0, 0, 0), (2, .iload_n 3, 1, 0, 0, 0), (3, .iconst 4, 1, 0, 0, 0), (4, .if_icmp .ge 22, 3, 0, 0, 0), (7, .aload_n 0, 1, 0, 0, 0), (8, .iload_n 1, 1, 0, 0, 0), (9, .iload_n 2, 1, 0, 0, 0), (10, .iload_n 3, 1, 0, 0, 0), (11, .invokevirtual 35, 3, 1, 3, 0), (14, .iconst (-1), 1, 0, 0, 0), (15, .if_icmp .eq 5, 3, 0, 0, 0), (18, .iconst 1, 1, 0, 0, 0), (19, .ireturn, 1, 0, 0, 0), (20, .iinc 3 1, 3, 0, 0, 0), (23, .goto (-21), 3, 0, 0, 0), (26, .iconst 0, 1, 0, 0, 0), (27, .ireturn, 1, 0, 0, 0)]
def px_t15 : List (Nat × px_K) := [(0, .aload_n 0, 1, 0, 0, 0), (1, .invokespecial 3, 3, 1000, 0, 0), (4, .aload_n 0, 1, 0, 0, 0), (5, .iload_n 1, 1, 0, 0, 0), (6, .i2l, 1, 0, 0, 0), (7, .putfield 9, 3, 1, 0, 0), (10, .return_, 1, 0, 0, 0)]
def px_t16 : List (Nat × px_K) := [(0, .aload_n 0, 1, 0, 0, 0), (1, .ldc2_w 15, 3, 0, 0, 1103515245), (4, .aload_n 0, 1, 0, 0, 0), (5, .getfield 9, 3, 1, 0, 0), (8, .lmul, 1, 0, 0, 0), (9, .ldc2_w 17, 3, 0, 0, 12345), (12, .ladd, 1, 0, 0, 0), (13, .ldc2_w 19, 3, 0, 0, 2147483648), (16, .lrem, 1, 0, 0, 0), (17, .putfield 9, 3, 1, 0, 0), (20, .iload_n 1, 1, 0, 0, 0), (21, .iconst 1, 1, 0, 0, 0), (22, .if_icmp .ge 7, 3, 0, 0, 0), (25, .iconst 0, 1, 0, 0, 0), (26, .goto 15, 3, 0, 0, 0), (29, .aload_n 0, 1, 0, 0, 0), (30, .getfield 9, 3, 1, 0, 0), (33, .ldc2_w 21, 3, 0, 0, 65536), (36, .ldiv, 1, 0, 0, 0), (37, .iload_n 1, 1, 0, 0, 0), (38, .i2l, 1, 0, 0, 0), (39, .lrem, 1, 0, 0, 0), (40, .l2i, 1, 0, 0, 0), (41, .ireturn, 1, 0, 0, 0)]
def px_t17 : List (Nat × px_K) := [(0, .aload_n 0, 1, 0, 0, 0), (1, .iconst 4, 1, 0, 0, 0), (2, .invokevirtual 23, 3, 16, 1, 0), (5, .tableswitch 80 0 2 #[27, 44, 59], 27, 0, 0, 0), (32, .aload_n 1, 1, 0, 0, 0), (33, .aload_n 0, 1, 0, 0, 0), (34, .aload_n 1, 1, 0, 0, 0), (35, .getfield 27, 3, 3, 0, 0), (38, .getfield 33, 3, 0, 0, 0), (41, .invokevirtual 23, 3, 16, 1, 0), (44, .invokevirtual 39, 3, 28, 1, 0), (47, .iconst 0, 1, 0, 0, 0), (48, .ireturn, 1, 0, 0, 0), (49, .aload_n 1, 1, 0, 0, 0), (50, .invokevirtual 43, 3, 27, 0, 0), (53, .bipush 9, 2, 0, 0, 0), (55, .if_icmp .ge 7, 3, 0, 0, 0), (58, .aload_n 1, 1, 0, 0, 0), (59, .invokevirtual 47, 3, 29, 0, 0), (62, .iconst 0, 1, 0, 0, 0), (63, .ireturn, 1, 0, 0, 0), (64, .aload_n 0, 1, 0, 0, 0), (65, .iconst 4, 1, 0, 0, 0), (66, .invokevirtual 23, 3, 16, 1, 0), (69, .istore_n 2, 1, 0, 0, 0), (70, .aload_n 1, 1, 0, 0, 0), (71, .getfield 50, 3, 3, 2, 0), (74, .iload_n 2, 1, 0, 0, 0), (75, .aload_n 0, 1, 0, 0, 0), (76, .sipush 1000, 3, 0, 0, 0), (79, .invokevirtual 23, 3, 16, 1, 0), (82, .iastore, 1, 0, 0, 0), (83, .iconst 0, 1, 0, 0, 0), (84, .ireturn, 1, 0, 0, 0), (85, .aload_n 0, 1, 0, 0, 0), (86, .aload_n 1, 1, 0, 0, 0), (87, .invokevirtual 54, 3, 18, 1, 0), (90, .ireturn, 1, 0, 0, 0)]
def px_t18 : List (Nat × px_K) := [(0, .aload_n 0, 1, 0, 0, 0), (1, .iconst 5, 1, 0, 0, 0), (2, .invokevirtual 23, 3, 16, 1, 0), (5, .istore_n 2, 1, 0, 0, 0), (6, .aload_n 1, 1, 0, 0, 0), (7, .iload_n 2, 1, 0, 0, 0), (8, .invokevirtual 58, 3, 34, 1, 0), (11, .istore_n 3, 1, 0, 0, 0), (12, .iload_n 3, 1, 0, 0, 0), (13, .iconst (-1), 1, 0, 0, 0), (14, .if_icmp .ne 5, 3, 0, 0, 0), (17, .iconst 0, 1, 0, 0, 0), (18, .ireturn, 1, 0, 0, 0), (19, .aload_n 1, 1, 0, 0, 0), (20, .iload_n 3, 1, 0, 0, 0), (21, .iload_n 2, 1, 0, 0, 0), (22, .invokevirtual 61, 3, 37, 2, 0), (25, .iconst 1, 1, 0, 0, 0), (26, .ireturn, 1, 0, 0, 0)]
def px_t19 : List (Nat × px_K) := [(0, .aload_n 0, 1, 0, 0, 0), (1, .invokespecial 3, 3, 1000, 0, 0), (4, .aload_n 0, 1, 0, 0, 0), (5, .bipush 30, 2, 0, 0, 0), (7, .anewarray 9, 3, 3, 0, 0), (10, .putfield 11, 3, 2, 0, 0), (13, .aload_n 0, 1, 0, 0, 0), (14, .iconst 0, 1, 0, 0, 0), (15, .putfield 17, 3, 2, 1, 0), (18, .aload_n 0, 1, 0, 0, 0), (19, .iconst 0, 1, 0, 0, 0), (20, .putfield 21, 3, 2, 2, 0), (23, .return_, 1, 0, 0, 0)]
def px_t20 : List (Nat × px_K) := [(0, .aload_n 0, 1, 0, 0, 0), (1, .iconst 0, 1, 0, 0, 0), (2, .putfield 21, 3, 2, 2, 0), (5, .return_, 1, 0, 0, 0)]
def px_t21 : List (Nat × px_K) := [(0, .aload_n 0, 1, 0, 0, 0), (1, .getfield 11, 3, 2, 0, 0), (4, .aload_n 0, 1, 0, 0, 0), (5, .getfield 17, 3, 2, 1, 0), (8, .aload_n 1, 1, 0, 0, 0), (9, .aastore, 1, 0, 0, 0), (10, .aload_n 0, 1, 0, 0, 0), (11, .aload_n 0, 1, 0, 0, 0), (12, .getfield 17, 3, 2, 1, 0), (15, .iconst 1, 1, 0, 0, 0), (16, .iadd, 1, 0, 0, 0), (17, .bipush 30, 2, 0, 0, 0), (19, .irem, 1, 0, 0, 0), (20, .putfield 17, 3, 2, 1, 0), (23, .aload_n 0, 1, 0, 0, 0), (24, .aload_n 0, 1, 0, 0, 0), (25, .getfield 21, 3, 2, 2, 0), (28, .iconst 1, 1, 0, 0, 0), (29, .iadd, 1, 0, 0, 0), (30, .bipush 30, 2, 0, 0, 0), (32, .invokestatic 24, 3, 1004, 0, 0), (35, .putfield 21, 3, 2, 2, 0), (38, .return_, 1, 0, 0, 0)]
def px_t22 : List (Nat × px_K) := [(0, .aload_n 0, 1, 0, 0, 0), (1, .getfield 21, 3, 2, 2, 0), (4, .iconst 1, 1, 0, 0, 0), (5, .if_icmp .ge 5, 3, 0, 0, 0), (8, .aload_n 1, 1, 0, 0, 0), (9, .areturn, 1, 0, 0, 0), (10, .aload_n 0, 1, 0, 0, 0), (11, .aload_n 0, 1, 0, 0, 0), (12, .getfield 17, 3, 2, 1, 0), (15, .bipush 30, 2, 0, 0, 0), (17, .iadd, 1, 0, 0, 0), (18, .iconst 1, 1, 0, 0, 0), (19, .isub, 1, 0, 0, 0), (20, .bipush 30, 2, 0, 0, 0), (22, .irem, 1, 0, 0, 0), (23, .putfield 17, 3, 2, 1, 0), (26, .aload_n 0, 1, 0, 0, 0), (27, .dup, 1, 0, 0, 0), (28, .getfield 21, 3, 2, 2, 0), (31, .iconst 1, 1, 0, 0, 0), (32, .isub, 1, 0, 0, 0), (33, .putfield 21, 3, 2, 2, 0), (36, .aload_n 0, 1, 0, 0, 0), (37, .getfield 11, 3, 2, 0, 0), (40, .aload_n 0, 1, 0, 0, 0), (41, .getfield 17, 3, 2, 1, 0), (44, .aaload, 1, 0, 0, 0), (45, .areturn, 1, 0, 0, 0)]
def px_t23 : List (Nat × px_K) := [(0, .iconst 0, 1, 0, 0, 0), (1, .istore_n 2, 1, 0, 0, 0), (2, .iload_n 2, 1, 0, 0, 0), (3, .bipush 30, 2, 0, 0, 0), (5, .if_icmp .ge 21, 3, 0, 0, 0), (8, .aload_n 0, 1, 0, 0, 0), (9, .getfield 11, 3, 2, 0, 0), (12, .iload_n 2, 1, 0, 0, 0), (13, .aload_n 1, 1, 0, 0, 0), (14, .getfield 11, 3, 2, 0, 0), (17, .iload_n 2, 1, 0, 0, 0), (18, .aaload, 1, 0, 0, 0), (19, .aastore, 1, 0, 0, 0), (20, .iinc 2 1, 3, 0, 0, 0), (23, .goto (-21), 3, 0, 0, 0), (26, .aload_n 0, 1, 0, 0, 0), (27, .aload_n 1, 1, 0, 0, 0), (28, .getfield 17, 3, 2, 1, 0), (31, .putfield 17, 3, 2, 1, 0), (34, .aload_n 0, 1, 0, 0, 0), (35, .aload_n 1, 1, 0, 0, 0), (36, .getfield 21, 3, 2, 2, 0), (39, .putfield 21, 3, 2, 2, 0), (42, .return_, 1, 0, 0, 0)]
def px_t24 : List (Nat × px_K) := [(0, .aload_n 0, 1, 0, 0, 0), (1, .invokespecial 3, 3, 1000, 0, 0), (4, .aload_n 0, 1, 0, 0, 0), (5, .aload_n 1, 1, 0, 0, 0), (6, .putfield 9, 3, 3, 0, 0), (9, .aload_n 0, 1, 0, 0, 0), (10, .bipush 9, 2, 0, 0, 0), (12, .newarray .int, 2, 0, 0, 0), (14, .putfield 15, 3, 3, 1, 0), (17, .aload_n 0, 1, 0, 0, 0), (18, .iconst 4, 1, 0, 0, 0), (19, .newarray .int, 2, 0, 0, 0), (21, .putfield 19, 3, 3, 2, 0), (24, .aload_n 0, 1, 0, 0, 0), (25, .bipush 8, 2, 0, 0, 0), (27, .newarray .int, 2, 0, 0, 0), (29, .putfield 22, 3, 3, 3, 0), (32, .aload_n 0, 1, 0, 0, 0), (33, .bipush 8, 2, 0, 0, 0), (35, .newarray .int, 2, 0, 0, 0), (37, .putfield 25, 3, 3, 4, 0), (40, .aload_n 0, 1, 0, 0, 0), (41, .bipush 48, 2, 0, 0, 0), (43, .newarray .int, 2, 0, 0, 0), (45, .putfield 28, 3, 3, 5, 0), (48, .aload_n 0, 1, 0, 0, 0), (49, .bipush 24, 2, 0, 0, 0), (51, .newarray .int, 2, 0, 0, 0), (53, .putfield 31, 3, 3, 6, 0), (56, .aload_n 0, 1, 0, 0, 0), (57, .iconst 0, 1, 0, 0, 0), (58, .putfield 34, 3, 3, 7, 0), (61, .aload_n 0, 1, 0, 0, 0), (62, .iconst 0, 1, 0, 0, 0), (63, .putfield 38, 3, 3, 8, 0), (66, .iconst 0, 1, 0, 0, 0), (67, .istore_n 2, 1, 0, 0, 0), (68, .iload_n 2, 1, 0, 0, 0), (69, .aload_n 1, 1, 0, 0, 0), (70, .getfield 41, 3, 0, 0, 0), (73, .if_icmp .ge 43, 3, 0, 0, 0), (76, .iconst 0, 1, 0, 0, 0), (77, .istore_n 3, 1, 0, 0, 0), (78, .iload_n 3, 1, 0, 0, 0), (79, .aload_n 1, 1, 0, 0, 0), (80, .iload_n 2, 1, 0, 0, 0), (81, .invokevirtual 45, 3, 3, 1, 0), (84, .if_icmp .ge 26, 3, 0, 0, 0), (87, .aload_n 0, 1, 0, 0, 0), (88, .getfield 15, 3, 3, 1, 0), (91, .iload_n 2, 1, 0, 0, 0), (92, .iload_n 3, 1, 0, 0, 0), (93, .invokestatic 49, 3, 103, 2, 1), (96, .aload_n 1, 1, 0, 0, 0), (97, .iload_n 2, 1, 0, 0, 0), (98, .iload_n 3, 1, 0, 0, 0), (99, .iconst 0, 1, 0, 0, 0), (100, .invokevirtual 53, 3, 5, 3, 0), (103, .iastore, 1, 0, 0, 0), (104, .iinc 3 1, 3, 0, 0, 0), (107, .goto (-29), 3, 0, 0, 0), (110, .iinc 2 1, 3, 0, 0, 0), (113, .goto (-45), 3, 0, 0, 0), (116, .return_, 1, 0, 0, 0)]
def px_t25 : List (Nat × px_K) := [(0, .aload_n 0, 1, 0, 0, 0), (1, .invokespecial 3, 3, 1000, 0, 0), (4, .aload_n 0, 1, 0, 0, 0), (5, .aload_n 1, 1, 0, 0, 0), (6, .getfield 9, 3, 3, 0, 0), (9, .putfield 9, 3, 3, 0, 0), (12, .aload_n 0, 1, 0, 0, 0), (13, .aload_n 1, 1, 0, 0, 0), (14, .getfield 15, 3, 3, 1, 0), (17, .invokevirtual 57, 3, 1002, 0, 0), (20, .checkcast 58, 3, 0, 0, 0), (23, .putfield 15, 3, 3, 1, 0), (26, .aload_n 0, 1, 0, 0, 0), (27, .aload_n 1, 1, 0, 0, 0), (28, .getfield 19, 3, 3, 2, 0), (31, .invokevirtual 57, 3, 1002, 0, 0), (34, .checkcast 58, 3, 0, 0, 0), (37, .putfield 19, 3, 3, 2, 0), (40, .aload_n 0, 1, 0, 0, 0), (41, .aload_n 1, 1, 0, 0, 0), (42, .getfield 22, 3, 3, 3, 0), (45, .invokevirtual 57, 3, 1002, 0, 0), (48, .checkcast 58, 3, 0, 0, 0), (51, .putfield 22, 3, 3, 3, 0), (54, .aload_n 0, 1, 0, 0, 0), (55, .aload_n 1, 1, 0, 0, 0), (56, .getfield 25, 3, 3, 4, 0), (59, .invokevirtual 57, 3, 1002, 0, 0), (62, .checkcast 58, 3, 0, 0, 0), (65, .putfield 25, 3, 3, 4, 0), (68, .aload_n 0, 1, 0, 0, 0), (69, .aload_n 1, 1, 0, 0, 0), (70, .getfield 28, 3, 3, 5, 0), (73, .invokevirtual 57, 3, 1002, 0, 0), (76, .checkcast 58, 3, 0, 0, 0), (79, .putfield 28, 3, 3, 5, 0), (82, .aload_n 0, 1, 0, 0, 0), (83, .aload_n 1, 1, 0, 0, 0), (84, .getfield 31, 3, 3, 6, 0), (87, .invokevirtual 57, 3, 1002, 0, 0), (90, .checkcast 58, 3, 0, 0, 0), (93, .putfield 31, 3, 3, 6, 0), (96, .aload_n 0, 1, 0, 0, 0), (97, .aload_n 1, 1, 0, 0, 0), (98, .getfield 34, 3, 3, 7, 0), (101, .putfield 34, 3, 3, 7, 0), (104, .aload_n 0, 1, 0, 0, 0), (105, .aload_n 1, 1, 0, 0, 0), (106, .getfield 38, 3, 3, 8, 0), (109, .putfield 38, 3, 3, 8, 0), (112, .return_, 1, 0, 0, 0)]
def px_t26 : List (Nat × px_K) := [(0, .aload_n 0, 1, 0, 0, 0), (1, .getfield 34, 3, 3, 7, 0), (4, .iconst 1, 1, 0, 0, 0), (5, .isub, 1, 0, 0, 0), (6, .iload_n 1, 1, 0, 0, 0), (7, .isub, 1, 0, 0, 0), (8, .ireturn, 1, 0, 0, 0)]
def px_t27 : List (Nat × px_K) := [(0, .aload_n 0, 1, 0, 0, 0), (1, .getfield 34, 3, 3, 7, 0), (4, .ifCond .le 17, 3, 0, 0, 0), (7, .aload_n 0, 1, 0, 0, 0), (8, .getfield 25, 3, 3, 4, 0), (11, .aload_n 0, 1, 0, 0, 0), (12, .getfield 34, 3, 3, 7, 0), (15, .iconst 1, 1, 0, 0, 0), (16, .isub, 1, 0, 0, 0), (17, .iaload, 1, 0, 0, 0), (18, .goto 4, 3, 0, 0, 0), (21, .iconst 0, 1, 0, 0, 0), (22, .ireturn, 1, 0, 0, 0)]
def px_t28 : List (Nat × px_K) := [(0, .aload_n 0, 1, 0, 0, 0), (1, .getfield 34, 3, 3, 7, 0), (4, .bipush 8, 2, 0, 0, 0), (6, .if_icmp .lt 4, 3, 0, 0, 0), (9, .return_, 1, 0, 0, 0), (10, .aload_n 0, 1, 0, 0, 0), (11, .getfield 22, 3, 3, 3, 0), (14, .aload_n 0, 1, 0, 0, 0), (15, .getfield 34, 3, 3, 7, 0), (18, .iload_n 1, 1, 0, 0, 0), (19, .iastore, 1, 0, 0, 0), (20, .aload_n 0, 1, 0, 0, 0), (21, .getfield 25, 3, 3, 4, 0), (24, .aload_n 0, 1, 0, 0, 0), (25, .getfield 34, 3, 3, 7, 0), (28, .iconst 0, 1, 0, 0, 0), (29, .iastore, 1, 0, 0, 0), (30, .iconst 0, 1, 0, 0, 0), (31, .istore_n 2, 1, 0, 0, 0), (32, .iload_n 2, 1, 0, 0, 0), (33, .bipush 6, 2, 0, 0, 0), (35, .if_icmp .ge 24, 3, 0, 0, 0), (38, .aload_n 0, 1, 0, 0, 0), (39, .getfield 28, 3, 3, 5, 0), (42, .aload_n 0, 1, 0, 0, 0), (43, .getfield 34, 3, 3, 7, 0), (46, .bipush 6, 2, 0, 0, 0), (48, .imul, 1, 0, 0, 0), (49, .iload_n 2, 1, 0, 0, 0), (50, .iadd, 1, 0, 0, 0), (51, .iconst 0, 1, 0, 0, 0), (52, .iastore, 1, 0, 0, 0), (53, .iinc 2 1, 3, 0, 0, 0), (56, .goto (-24), 3, 0, 0, 0), (59, .aload_n 0, 1, 0, 0, 0), (60, .dup, 1, 0, 0, 0), (61, .getfield 34, 3, 3, 7, 0), (64, .iconst 1, 1, 0, 0, 0), (65, .iadd, 1, 0, 0, 0), (66, .putfield 34, 3, 3, 7, 0), (69, .aload_n 0, 1, 0, 0, 0), (70, .invokevirtual 62, 3, 30, 0, 0), (73, .return_, 1, 0, 0, 0)]
def px_t29 : List (Nat × px_K) := [(0, .aload_n 0, 1, 0, 0, 0), (1, .getfield 34, 3, 3, 7, 0), (4, .ifCond .le 22, 3, 0, 0, 0), (7, .aload_n 0, 1, 0, 0, 0), (8, .getfield 25, 3, 3, 4, 0), (11, .aload_n 0, 1, 0, 0, 0), (12, .getfield 34, 3, 3, 7, 0), (15, .iconst 1, 1, 0, 0, 0), (16, .isub, 1, 0, 0, 0), (17, .dup2, 1, 0, 0, 0), (18, .iaload, 1, 0, 0, 0), (19, .iconst 1, 1, 0, 0, 0), (20, .iadd, 1, 0, 0, 0), (21, .iastore, 1, 0, 0, 0), (22, .aload_n 0, 1, 0, 0, 0), (23, .invokevirtual 62, 3, 30, 0, 0), (26, .return_, 1, 0, 0, 0)]
def px_t30 : List (Nat × px_K) := [(0, .aload_n 0, 1, 0, 0, 0), (1, .getfield 34, 3, 3, 7, 0), (4, .iconst 1, 1, 0, 0, 0), (5, .isub, 1, 0, 0, 0), (6, .istore_n 1, 1, 0, 0, 0), (7, .aload_n 0, 1, 0, 0, 0), (8, .getfield 22, 3, 3, 3, 0), (11, .iload_n 1, 1, 0, 0, 0), (12, .iaload, 1, 0, 0, 0), (13, .istore_n 2, 1, 0, 0, 0), (14, .iconst 0, 1, 0, 0, 0), (15, .istore_n 3, 1, 0, 0, 0), (16, .iload_n 3, 1, 0, 0, 0), (17, .aload_n 0, 1, 0, 0, 0), (18, .getfield 9, 3, 3, 0, 0), (21, .iload_n 2, 1, 0, 0, 0), (22, .invokevirtual 65, 3, 7, 1, 0), (25, .if_icmp .ge 60, 3, 0, 0, 0), (28, .aload_n 0, 1, 0, 0, 0), (29, .getfield 9, 3, 3, 0, 0), (32, .iload_n 2, 1, 0, 0, 0), (33, .iload_n 3, 1, 0, 0, 0), (34, .invokevirtual 68, 3, 8, 2, 0), (37, .aload_n 0, 1, 0, 0, 0), (38, .getfield 25, 3, 3, 4, 0), (41, .iload_n 1, 1, 0, 0, 0), (42, .iaload, 1, 0, 0, 0), (43, .if_icmp .ne 36, 3, 0, 0, 0), (46, .aload_n 0, 1, 0, 0, 0), (47, .getfield 28, 3, 3, 5, 0), (50, .iload_n 1, 1, 0, 0, 0), (51, .bipush 6, 2, 0, 0, 0), (53, .imul, 1, 0, 0, 0), (54, .aload_n 0, 1, 0, 0, 0), (55, .getfield 9, 3, 3, 0, 0), (58, .iload_n 2, 1, 0, 0, 0), (59, .iload_n 3, 1, 0, 0, 0), (60, .invokevirtual 71, 3, 10, 2, 0), (63, .iadd, 1, 0, 0, 0), (64, .aload_n 0, 1, 0, 0, 0), (65, .getfield 19, 3, 3, 2, 0), (68, .aload_n 0, 1, 0, 0, 0), (69, .getfield 9, 3, 3, 0, 0), (72, .iload_n 2, 1, 0, 0, 0), (73, .iload_n 3, 1, 0, 0, 0), (74, .invokevirtual 74, 3, 9, 2, 0), (77, .iaload, 1, 0, 0, 0), (78, .iastore, 1, 0, 0, 0), (79, .iinc 3 1, 3, 0, 0, 0), (82, .goto (-66), 3, 0, 0, 0), (85, .return_, 1, 0, 0, 0)]
def px_t31 : List (Nat × px_K) := [(0, .aload_n 0, 1, 0, 0, 0), (1, .getfield 34, 3, 3, 7, 0), (4, .iconst 1, 1, 0, 0, 0), (5, .if_icmp .ge 4, 3, 0, 0, 0), (8, .return_, 1, 0, 0, 0), (9, .iconst 0, 1, 0, 0, 0), (10, .istore_n 1, 1, 0, 0, 0), (11, .iload_n 1, 1, 0, 0, 0), (12, .iconst 4, 1, 0, 0, 0), (13, .if_icmp .ge 32, 3, 0, 0, 0), (16, .aload_n 0, 1, 0, 0, 0), (17, .getfield 19, 3, 3, 2, 0), (20, .iload_n 1, 1, 0, 0, 0), (21, .aload_n 0, 1, 0, 0, 0), (22, .aload_n 0, 1, 0, 0, 0), (23, .getfield 34, 3, 3, 7, 0), (26, .iconst 1, 1, 0, 0, 0), (27, .isub, 1, 0, 0, 0), (28, .iload_n 1, 1, 0, 0, 0), (29, .aload_n 0, 1, 0, 0, 0), (30, .getfield 19, 3, 3, 2, 0), (33, .iload_n 1, 1, 0, 0, 0), (34, .iaload, 1, 0, 0, 0), (35, .invokevirtual 77, 3, 32, 3, 0), (38, .iastore, 1, 0, 0, 0), (39, .iinc 1 1, 3, 0, 0, 0), (42, .goto (-31), 3, 0, 0, 0), (45, .aload_n 0, 1, 0, 0, 0), (46, .dup, 1, 0, 0, 0), (47, .getfield 34, 3, 3, 7, 0), (50, .iconst 1, 1, 0, 0, 0), (51, .isub, 1, 0, 0, 0), (52, .putfield 34, 3, 3, 7, 0), (55, .return_, 1, 0, 0, 0)]
def px_t32 : List (Nat × px_K) := [(0, .aload_n 0, 1, 0, 0, 0), (1, .getfield 9, 3, 3, 0, 0), (4, .aload_n 0, 1, 0, 0, 0), (5, .getfield 22, 3, 3, 3, 0), (8, .iload_n 1, 1, 0, 0, 0), (9, .iaload, 1, 0, 0, 0), (10, .aload_n 0, 1, 0, 0, 0), (11, .getfield 25, 3, 3, 4, 0), (14, .iload_n 1, 1, 0, 0, 0), (15, .iaload, 1, 0, 0, 0), (16, .iload_n 2, 1, 0, 0, 0), (17, .invokevirtual 80, 3, 1, 3, 0), (20, .istore 4, 2, 0, 0, 0), (22, .iload 4, 2, 0, 0, 0), (24, .iconst (-1), 1, 0, 0, 0), (25, .if_icmp .ne 7, 3, 0, 0, 0), (28, .iload_n 3, 1, 0, 0, 0), (29, .goto 15, 3, 0, 0, 0), (32, .aload_n 0, 1, 0, 0, 0), (33, .getfield 28, 3, 3, 5, 0), (36, .iload_n 1, 1, 0, 0, 0), (37, .bipush 6, 2, 0, 0, 0), (39, .imul, 1, 0, 0, 0), (40, .iload 4, 2, 0, 0, 0), (42, .iadd, 1, 0, 0, 0), (43, .iaload, 1, 0, 0, 0), (44, .ireturn, 1, 0, 0, 0)]
def px_t33 : List (Nat × px_K) := [(0, .aload_n 0, 1, 0, 0, 0), (1, .getfield 19, 3, 3, 2, 0), (4, .iload_n 2, 1, 0, 0, 0), (5, .iaload, 1, 0, 0, 0), (6, .istore_n 3, 1, 0, 0, 0), (7, .aload_n 0, 1, 0, 0, 0), (8, .getfield 34, 3, 3, 7, 0), (11, .iconst 1, 1, 0, 0, 0), (12, .isub, 1, 0, 0, 0), (13, .istore 4, 2, 0, 0, 0), (15, .iload 4, 2, 0, 0, 0), (17, .iload_n 1, 1, 0, 0, 0), (18, .if_icmp .lt 23, 3, 0, 0, 0), (21, .iload 4, 2, 0, 0, 0), (23, .ifCond .lt 18, 3, 0, 0, 0), (26, .aload_n 0, 1, 0, 0, 0), (27, .iload 4, 2, 0, 0, 0), (29, .iload_n 2, 1, 0, 0, 0), (30, .iload_n 3, 1, 0, 0, 0), (31, .invokevirtual 77, 3, 32, 3, 0), (34, .istore_n 3, 1, 0, 0, 0), (35, .iinc 4 (-1), 3, 0, 0, 0), (38, .goto (-23), 3, 0, 0, 0), (41, .iload_n 3, 1, 0, 0, 0), (42, .ireturn, 1, 0, 0, 0)]
def px_t34 : List (Nat × px_K) := [(0, .iconst 0, 1, 0, 0, 0), (1, .istore_n 2, 1, 0, 0, 0), (2, .iload_n 2, 1, 0, 0, 0), (3, .aload_n 0, 1, 0, 0, 0), (4, .getfield 34, 3, 3, 7, 0), (7, .if_icmp .ge 61, 3, 0, 0, 0), (10, .aload_n 0, 1, 0, 0, 0), (11, .iload_n 2, 1, 0, 0, 0), (12, .invokevirtual 83, 3, 26, 1, 0), (15, .istore_n 3, 1, 0, 0, 0), (16, .iconst 0, 1, 0, 0, 0), (17, .istore 4, 2, 0, 0, 0), (19, .iload 4, 2, 0, 0, 0), (21, .aload_n 0, 1, 0, 0, 0), (22, .getfield 9, 3, 3, 0, 0), (25, .aload_n 0, 1, 0, 0, 0), (26, .getfield 22, 3, 3, 3, 0), (29, .iload_n 3, 1, 0, 0, 0), (30, .iaload, 1, 0, 0, 0), (31, .invokevirtual 45, 3, 3, 1, 0), (34, .if_icmp .ge 28, 3, 0, 0, 0), (37, .aload_n 0, 1, 0, 0, 0), (38, .iload_n 3, 1, 0, 0, 0), (39, .iload 4, 2, 0, 0, 0), (41, .iload_n 1, 1, 0, 0, 0), (42, .invokevirtual 86, 3, 35, 3, 0), (45, .iconst 1, 1, 0, 0, 0), (46, .if_icmp .ne 10, 3, 0, 0, 0), (49, .iload_n 2, 1, 0, 0, 0), (50, .iconst 3, 1, 0, 0, 0), (51, .imul, 1, 0, 0, 0), (52, .iload 4, 2, 0, 0, 0), (54, .iadd, 1, 0, 0, 0), (55, .ireturn, 1, 0, 0, 0), (56, .iinc 4 1, 3, 0, 0, 0), (59, .goto (-40), 3, 0, 0, 0), (62, .iinc 2 1, 3, 0, 0, 0), (65, .goto (-63), 3, 0, 0, 0), (68, .iconst (-1), 1, 0, 0, 0), (69, .ireturn, 1, 0, 0, 0)]
def px_t35 : List (Nat × px_K) := [(0, .aload_n 0, 1, 0, 0, 0), (1, .getfield 22, 3, 3, 3, 0), (4, .iload_n 1, 1, 0, 0, 0), (5, .iaload, 1, 0, 0, 0), (6, .istore 4, 2, 0, 0, 0), (8, .aload_n 0, 1, 0, 0, 0), (9, .getfield 25, 3, 3, 4, 0), (12, .iload_n 1, 1, 0, 0, 0), (13, .iaload, 1, 0, 0, 0), (14, .istore 5, 2, 0, 0, 0), (16, .iload 5, 2, 0, 0, 0), (18, .aload_n 0, 1, 0, 0, 0), (19, .getfield 9, 3, 3, 0, 0), (22, .iload 4, 2, 0, 0, 0), (24, .iload_n 2, 1, 0, 0, 0), (25, .iconst 1, 1, 0, 0, 0), (26, .invokevirtual 53, 3, 5, 3, 0), (29, .if_icmp .lt 19, 3, 0, 0, 0), (32, .iload 5, 2, 0, 0, 0), (34, .aload_n 0, 1, 0, 0, 0), (35, .getfield 9, 3, 3, 0, 0), (38, .iload 4, 2, 0, 0, 0), (40, .iload_n 2, 1, 0, 0, 0), (41, .iconst 2, 1, 0, 0, 0), (42, .invokevirtual 53, 3, 5, 3, 0), (45, .if_icmp .le 5, 3, 0, 0, 0), (48, .iconst 0, 1, 0, 0, 0), (49, .ireturn, 1, 0, 0, 0), (50, .aload_n 0, 1, 0, 0, 0), (51, .getfield 15, 3, 3, 1, 0), (54, .iload 4, 2, 0, 0, 0), (56, .iload_n 2, 1, 0, 0, 0), (57, .invokestatic 49, 3, 103, 2, 1), (60, .iaload, 1, 0, 0, 0), (61, .aload_n 0, 1, 0, 0, 0), (62, .getfield 9, 3, 3, 0, 0), (65, .iload 4, 2, 0, 0, 0), (67, .iload_n 2, 1, 0, 0, 0), (68, .iconst 3, 1, 0, 0, 0), (69, .invokevirtual 53, 3, 5, 3, 0), (72, .iload_n 3, 1, 0, 0, 0), (73, .invokestatic 89, 3, 106, 3, 1), (76, .ireturn, 1, 0, 0, 0)]
def px_t36 : List (Nat × px_K) := [(0, .iconst 0, 1, 0, 0, 0), (1, .istore_n 3, 1, 0, 0, 0), (2, .iconst 0, 1, 0, 0, 0), (3, .istore 4, 2, 0, 0, 0), (5, .iload 4, 2, 0, 0, 0), (7, .iload_n 1, 1, 0, 0, 0), (8, .if_icmp .ge 58, 3, 0, 0, 0), (11, .aload_n 0, 1, 0, 0, 0), (12, .iload 4, 2, 0, 0, 0), (14, .iconst 3, 1, 0, 0, 0), (15, .idiv, 1, 0, 0, 0), (16, .invokevirtual 83, 3, 26, 1, 0), (19, .istore 5, 2, 0, 0, 0), (21, .iload 4, 2, 0, 0, 0), (23, .iconst 3, 1, 0, 0, 0), (24, .irem, 1, 0, 0, 0), (25, .aload_n 0, 1, 0, 0, 0), (26, .getfield 9, 3, 3, 0, 0), (29, .aload_n 0, 1, 0, 0, 0), (30, .getfield 22, 3, 3, 3, 0), (33, .iload 5, 2, 0, 0, 0), (35, .iaload, 1, 0, 0, 0), (36, .invokevirtual 45, 3, 3, 1, 0), (39, .if_icmp .ge 21, 3, 0, 0, 0), (42, .aload_n 0, 1, 0, 0, 0), (43, .iload 5, 2, 0, 0, 0), (45, .iload 4, 2, 0, 0, 0), (47, .iconst 3, 1, 0, 0, 0), (48, .irem, 1, 0, 0, 0), (49, .iload_n 2, 1, 0, 0, 0), (50, .invokevirtual 86, 3, 35, 3, 0), (53, .iconst 2, 1, 0, 0, 0), (54, .if_icmp .ne 6, 3, 0, 0, 0), (57, .iinc 3 1, 3, 0, 0, 0), (60, .iinc 4 1, 3, 0, 0, 0), (63, .goto (-58), 3, 0, 0, 0), (66, .iload_n 3, 1, 0, 0, 0), (67, .ireturn, 1, 0, 0, 0)]
def px_t37 : List (Nat × px_K) := [(0, .iload_n 1, 1, 0, 0, 0), (1, .iconst 3, 1, 0, 0, 0), (2, .idiv, 1, 0, 0, 0), (3, .istore_n 3, 1, 0, 0, 0), (4, .iload_n 1, 1, 0, 0, 0), (5, .ifCond .lt 11, 3, 0, 0, 0), (8, .iload_n 3, 1, 0, 0, 0), (9, .aload_n 0, 1, 0, 0, 0), (10, .getfield 34, 3, 3, 7, 0), (13, .if_icmp .lt 4, 3, 0, 0, 0), (16, .return_, 1, 0, 0, 0), (17, .aload_n 0, 1, 0, 0, 0), (18, .iconst 0, 1, 0, 0, 0), (19, .putfield 38, 3, 3, 8, 0), (22, .iconst 0, 1, 0, 0, 0), (23, .istore 4, 2, 0, 0, 0), (25, .iload 4, 2, 0, 0, 0), (27, .iload_n 3, 1, 0, 0, 0), (28, .if_icmp .ge 36, 3, 0, 0, 0), (31, .aload_n 0, 1, 0, 0, 0), (32, .aload_n 0, 1, 0, 0, 0), (33, .getfield 9, 3, 3, 0, 0), (36, .aload_n 0, 1, 0, 0, 0), (37, .getfield 22, 3, 3, 3, 0), (40, .aload_n 0, 1, 0, 0, 0), (41, .getfield 34, 3, 3, 7, 0), (44, .iconst 1, 1, 0, 0, 0), (45, .isub, 1, 0, 0, 0), (46, .iaload, 1, 0, 0, 0), (47, .invokevirtual 45, 3, 3, 1, 0), (50, .iload_n 2, 1, 0, 0, 0), (51, .invokevirtual 92, 3, 38, 2, 0), (54, .aload_n 0, 1, 0, 0, 0), (55, .invokevirtual 96, 3, 31, 0, 0), (58, .iinc 4 1, 3, 0, 0, 0), (61, .goto (-36), 3, 0, 0, 0), (64, .aload_n 0, 1, 0, 0, 0), (65, .iload_n 1, 1, 0, 0, 0), (66, .iconst 3, 1, 0, 0, 0), (67, .irem, 1, 0, 0, 0), (68, .iload_n 2, 1, 0, 0, 0), (69, .invokevirtual 92, 3, 38, 2, 0), (72, .aload_n 0, 1, 0, 0, 0), (73, .getfield 25, 3, 3, 4, 0), (76, .aload_n 0, 1, 0, 0, 0), (77, .getfield 34, 3, 3, 7, 0), (80, .iconst 1, 1, 0, 0, 0), (81, .isub, 1, 0, 0, 0), (82, .aload_n 0, 1, 0, 0, 0), (83, .getfield 9, 3, 3, 0, 0), (86, .aload_n 0, 1, 0, 0, 0), (87, .getfield 22, 3, 3, 3, 0), (90, .aload_n 0, 1, 0, 0, 0), (91, .getfield 34, 3, 3, 7, 0), (94, .iconst 1, 1, 0, 0, 0), (95, .isub, 1, 0, 0, 0), (96, .iaload, 1, 0, 0, 0), (97, .iload_n 1, 1, 0, 0, 0), (98, .iconst 3, 1, 0, 0, 0), (99, .irem, 1, 0, 0, 0), (100, .iconst 4, 1, 0, 0, 0), (101, .invokevirtual 53, 3, 5, 3, 0), (104, .iastore, 1, 0, 0, 0), (105, .return_, 1, 0, 0, 0)]
def px_t38 : List (Nat × px_K) := [(0, .aload_n 0, 1, 0, 0, 0), (1, .getfield 34, 3, 3, 7, 0), (4, .iconst 1, 1, 0, 0, 0), (5, .isub, 1, 0, 0, 0), (6, .istore_n 3, 1, 0, 0, 0), (7, .iconst 0, 1, 0, 0, 0), (8, .istore 4, 2, 0, 0, 0), (10, .iload 4, 2, 0, 0, 0), (12, .iload_n 1, 1, 0, 0, 0), (13, .if_icmp .ge 64, 3, 0, 0, 0), (16, .aload_n 0, 1, 0, 0, 0), (17, .getfield 38, 3, 3, 8, 0), (20, .aload_n 0, 1, 0, 0, 0), (21, .getfield 31, 3, 3, 6, 0), (24, .arraylength, 1, 0, 0, 0), (25, .if_icmp .ge 52, 3, 0, 0, 0), (28, .aload_n 0, 1, 0, 0, 0), (29, .iload_n 3, 1, 0, 0, 0), (30, .iload 4, 2, 0, 0, 0), (32, .iload_n 2, 1, 0, 0, 0), (33, .invokevirtual 86, 3, 35, 3, 0), (36, .iconst 2, 1, 0, 0, 0), (37, .if_icmp .ne 34, 3, 0, 0, 0), (40, .aload_n 0, 1, 0, 0, 0), (41, .getfield 31, 3, 3, 6, 0), (44, .aload_n 0, 1, 0, 0, 0), (45, .getfield 38, 3, 3, 8, 0), (48, .bipush 10, 2, 0, 0, 0), (50, .aload_n 0, 1, 0, 0, 0), (51, .getfield 22, 3, 3, 3, 0), (54, .iload_n 3, 1, 0, 0, 0), (55, .iaload, 1, 0, 0, 0), (56, .imul, 1, 0, 0, 0), (57, .iload 4, 2, 0, 0, 0), (59, .iadd, 1, 0, 0, 0), (60, .iastore, 1, 0, 0, 0), (61, .aload_n 0, 1, 0, 0, 0), (62, .dup, 1, 0, 0, 0), (63, .getfield 38, 3, 3, 8, 0), (66, .iconst 1, 1, 0, 0, 0), (67, .iadd, 1, 0, 0, 0), (68, .putfield 38, 3, 3, 8, 0), (71, .iinc 4 1, 3, 0, 0, 0), (74, .goto (-64), 3, 0, 0, 0), (77, .return_, 1, 0, 0, 0)]
def px_t39 : List (Nat × px_K) := [(0, .aload_n 0, 1, 0, 0, 0), (1, .invokespecial 3, 3, 1000, 0, 0), (4, .aload_n 0, 1, 0, 0, 0), (5, .bipush 100, 2, 0, 0, 0), (7, .newarray .int, 2, 0, 0, 0), (9, .putfield 9, 3, 4, 0, 0), (12, .aload_n 0, 1, 0, 0, 0), (13, .iconst 0, 1, 0, 0, 0), (14, .putfield 15, 3, 4, 1, 0), (17, .return_, 1, 0, 0, 0)]
def px_t40 : List (Nat × px_K) := [(0, .aload_n 0, 1, 0, 0, 0), (1, .getfield 15, 3, 4, 1, 0), (4, .bipush 100, 2, 0, 0, 0), (6, .if_icmp .ge 23, 3, 0, 0, 0), (9, .aload_n 0, 1, 0, 0, 0), (10, .getfield 9, 3, 4, 0, 0), (13, .aload_n 0, 1, 0, 0, 0), (14, .getfield 15, 3, 4, 1, 0), (17, .iload_n 1, 1, 0, 0, 0), (18, .iastore, 1, 0, 0, 0), (19, .aload_n 0, 1, 0, 0, 0), (20, .dup, 1, 0, 0, 0), (21, .getfield 15, 3, 4, 1, 0), (24, .iconst 1, 1, 0, 0, 0), (25, .iadd, 1, 0, 0, 0), (26, .putfield 15, 3, 4, 1, 0), (29, .return_, 1, 0, 0, 0)]
def px_t41 : List (Nat × px_K) := [(0, .iload_n 1, 1, 0, 0, 0), (1, .aload_n 0, 1, 0, 0, 0), (2, .getfield 15, 3, 4, 1, 0), (5, .invokestatic 19, 3, 102, 2, 1), (8, .ifCond .eq 12, 3, 0, 0, 0), (11, .aload_n 0, 1, 0, 0, 0), (12, .getfield 9, 3, 4, 0, 0), (15, .iload_n 1, 1, 0, 0, 0), (16, .iaload, 1, 0, 0, 0), (17, .goto 4, 3, 0, 0, 0), (20, .iconst 0, 1, 0, 0, 0), (21, .ireturn, 1, 0, 0, 0)]
def px_t42 : List (Nat × px_K) := [(0, .aload_n 0, 1, 0, 0, 0), (1, .iload_n 1, 1, 0, 0, 0), (2, .invokevirtual 23, 3, 41, 1, 0), (5, .bipush 48, 2, 0, 0, 0), (7, .isub, 1, 0, 0, 0), (8, .ireturn, 1, 0, 0, 0)]
def px_t43 : List (Nat × px_K) := [(0, .aload_n 0, 1, 0, 0, 0), (1, .invokespecial 3, 3, 1000, 0, 0), (4, .aload_n 0, 1, 0, 0, 0), (5, .iconst 0, 1, 0, 0, 0), (6, .putfield 11, 3, 5, 0, 0), (9, .aload_n 0, 1, 0, 0, 0), (10, .iconst 1, 1, 0, 0, 0), (11, .putfield 15, 3, 5, 1, 0), (14, .aload_n 0, 1, 0, 0, 0), (15, .iconst 0, 1, 0, 0, 0), (16, .putfield 18, 3, 5, 2, 0), (19, .aload_n 0, 1, 0, 0, 0), (20, .iconst 0, 1, 0, 0, 0), (21, .putfield 21, 3, 5, 3, 0), (24, .aload_n 0, 1, 0, 0, 0), (25, .iconst 0, 1, 0, 0, 0), (26, .putfield 24, 3, 5, 4, 0), (29, .aload_n 0, 1, 0, 0, 0), (30, .iconst 0, 1, 0, 0, 0), (31, .putfield 27, 3, 5, 5, 0), (34, .aload_n 0, 1, 0, 0, 0), (35, .iconst 0, 1, 0, 0, 0), (36, .putfield 30, 3, 5, 6, 0), (39, .return_, 1, 0, 0, 0)]
def px_t44 : List (Nat × px_K) := [(0, .iconst 0, 1, 0, 0, 0), (1, .istore_n 2, 1, 0, 0, 0), (2, .iload_n 2, 1, 0, 0, 0), (3, .aload_n 1, 1, 0, 0, 0), (4, .getfield 33, 3, 4, 1, 0), (7, .if_icmp .ge 23, 3, 0, 0, 0), (10, .aload_n 0, 1, 0, 0, 0), (11, .aload_n 1, 1, 0, 0, 0), (12, .iload_n 2, 1, 0, 0, 0), (13, .invokevirtual 38, 3, 41, 1, 0), (16, .invokevirtual 42, 3, 46, 1, 0), (19, .ifCond .ne 5, 3, 0, 0, 0), (22, .iload_n 2, 1, 0, 0, 0), (23, .ireturn, 1, 0, 0, 0), (24, .iinc 2 1, 3, 0, 0, 0), (27, .goto (-25), 3, 0, 0, 0), (30, .aload_n 1, 1, 0, 0, 0), (31, .getfield 33, 3, 4, 1, 0), (34, .ireturn, 1, 0, 0, 0)]
def px_t45 : List (Nat × px_K) := [(0, .aload_n 0, 1, 0, 0, 0), (1, .getfield 11, 3, 5, 0, 0), (4, .iconst 5, 1, 0, 0, 0), (5, .if_icmp .ne 7, 3, 0, 0, 0), (8, .iconst 1, 1, 0, 0, 0), (9, .goto 4, 3, 0, 0, 0), (12, .iconst 0, 1, 0, 0, 0), (13, .ireturn, 1, 0, 0, 0)]
def px_t46 : List (Nat × px_K) := [(0, .aload_n 0, 1, 0, 0, 0), (1, .getfield 11, 3, 5, 0, 0), (4, .tableswitch 143 0 8 #[52, 58, 67, 76, 85, 94, 100, 119, 133], 52, 0, 0, 0), (56, .aload_n 0, 1, 0, 0, 0), (57, .iload_n 1, 1, 0, 0, 0), (58, .invokevirtual 46, 3, 47, 1, 0), (61, .ireturn, 1, 0, 0, 0), (62, .aload_n 0, 1, 0, 0, 0), (63, .iload_n 1, 1, 0, 0, 0), (64, .bipush 48, 2, 0, 0, 0), (66, .isub, 1, 0, 0, 0), (67, .invokevirtual 49, 3, 49, 1, 0), (70, .ireturn, 1, 0, 0, 0), (71, .aload_n 0, 1, 0, 0, 0), (72, .iload_n 1, 1, 0, 0, 0), (73, .iconst 0, 1, 0, 0, 0), (74, .iconst 3, 1, 0, 0, 0), (75, .iconst 3, 1, 0, 0, 0), (76, .invokevirtual 52, 3, 50, 4, 0), (79, .ireturn, 1, 0, 0, 0), (80, .aload_n 0, 1, 0, 0, 0), (81, .iload_n 1, 1, 0, 0, 0), (82, .iconst 0, 1, 0, 0, 0), (83, .iconst 5, 1, 0, 0, 0), (84, .iconst 0, 1, 0, 0, 0), (85, .invokevirtual 52, 3, 50, 4, 0), (88, .ireturn, 1, 0, 0, 0), (89, .aload_n 0, 1, 0, 0, 0), (90, .iload_n 1, 1, 0, 0, 0), (91, .iconst 0, 1, 0, 0, 0), (92, .iconst 3, 1, 0, 0, 0), (93, .iconst 0, 1, 0, 0, 0), (94, .invokevirtual 52, 3, 50, 4, 0), (97, .ireturn, 1, 0, 0, 0), (98, .aload_n 0, 1, 0, 0, 0), (99, .iload_n 1, 1, 0, 0, 0), (100, .invokevirtual 56, 3, 51, 1, 0), (103, .ireturn, 1, 0, 0, 0), (104, .aload_n 0, 1, 0, 0, 0), (105, .iload_n 1, 1, 0, 0, 0), (106, .bipush 48, 2, 0, 0, 0), (108, .isub, 1, 0, 0, 0), (109, .putfield 30, 3, 5, 6, 0), (112, .aload_n 0, 1, 0, 0, 0), (113, .iload_n 1, 1, 0, 0, 0), (114, .iconst 0, 1, 0, 0, 0), (115, .bipush 9, 2, 0, 0, 0), (117, .bipush 7, 2, 0, 0, 0), (119, .invokevirtual 52, 3, 50, 4, 0), (122, .ireturn, 1, 0, 0, 0), (123, .aload_n 0, 1, 0, 0, 0), (124, .iload_n 1, 1, 0, 0, 0), (125, .aload_n 0, 1, 0, 0, 0), (126, .getfield 30, 3, 5, 6, 0), (129, .bipush 9, 2, 0, 0, 0), (131, .bipush 8, 2, 0, 0, 0), (133, .invokevirtual 52, 3, 50, 4, 0), (136, .ireturn, 1, 0, 0, 0), (137, .aload_n 0, 1, 0, 0, 0), (138, .iload_n 1, 1, 0, 0, 0), (139, .iconst 0, 1, 0, 0, 0), (140, .iconst 4, 1, 0, 0, 0), (141, .bipush 9, 2, 0, 0, 0), (143, .invokevirtual 52, 3, 50, 4, 0), (146, .ireturn, 1, 0, 0, 0), (147, .aload_n 0, 1, 0, 0, 0), (148, .iload_n 1, 1, 0, 0, 0), (149, .iconst 0, 1, 0, 0, 0), (150, .bipush 9, 2, 0, 0, 0), (152, .iconst 5, 1, 0, 0, 0), (153, .invokevirtual 52, 3, 50, 4, 0), (156, .ireturn, 1, 0, 0, 0)]
def px_t47 : List (Nat × px_K) := [(0, .iload_n 1, 1, 0, 0, 0), (1, .bipush 59, 2, 0, 0, 0), (3, .if_icmp .ne 10, 3, 0, 0, 0), (6, .aload_n 0, 1, 0, 0, 0), (7, .iconst 5, 1, 0, 0, 0), (8, .putfield 11, 3, 5, 0, 0), (11, .iconst 1, 1, 0, 0, 0), (12, .ireturn, 1, 0, 0, 0), (13, .aload_n 0, 1, 0, 0, 0), (14, .dup, 1, 0, 0, 0), (15, .getfield 18, 3, 5, 2, 0), (18, .iconst 1, 1, 0, 0, 0), (19, .iadd, 1, 0, 0, 0), (20, .putfield 18, 3, 5, 2, 0), (23, .aload_n 0, 1, 0, 0, 0), (24, .getfield 18, 3, 5, 2, 0), (27, .bipush 8, 2, 0, 0, 0), (29, .if_icmp .gt 15, 3, 0, 0, 0), (32, .aload_n 0, 1, 0, 0, 0), (33, .iload_n 1, 1, 0, 0, 0), (34, .invokevirtual 59, 3, 48, 1, 0), (37, .ifCond .eq 7, 3, 0, 0, 0), (40, .iconst 1, 1, 0, 0, 0), (41, .goto 4, 3, 0, 0, 0), (44, .iconst 0, 1, 0, 0, 0), (45, .ireturn, 1, 0, 0, 0)]
def px_t48 : List (Nat × px_K) := [(0, .iload_n 1, 1, 0, 0, 0), (1, .lookupswitch 119 #[(43, 51), (98, 96), (109, 72), (115, 58), (117, 65)], 51, 0, 0, 0), (52, .aload_n 0, 1, 0, 0, 0), (53, .iconst 1, 1, 0, 0, 0), (54, .putfield 11, 3, 5, 0, 0), (57, .iconst 1, 1, 0, 0, 0), (58, .ireturn, 1, 0, 0, 0), (59, .aload_n 0, 1, 0, 0, 0), (60, .iconst 2, 1, 0, 0, 0), (61, .putfield 11, 3, 5, 0, 0), (64, .iconst 1, 1, 0, 0, 0), (65, .ireturn, 1, 0, 0, 0), (66, .aload_n 0, 1, 0, 0, 0), (67, .iconst 4, 1, 0, 0, 0), (68, .putfield 11, 3, 5, 0, 0), (71, .iconst 1, 1, 0, 0, 0), (72, .ireturn, 1, 0, 0, 0), (73, .aload_n 0, 1, 0, 0, 0), (74, .dup, 1, 0, 0, 0), (75, .getfield 24, 3, 5, 4, 0), (78, .iconst 1, 1, 0, 0, 0), (79, .iadd, 1, 0, 0, 0), (80, .putfield 24, 3, 5, 4, 0), (83, .aload_n 0, 1, 0, 0, 0), (84, .getfield 24, 3, 5, 4, 0), (87, .iconst 3, 1, 0, 0, 0), (88, .if_icmp .gt 7, 3, 0, 0, 0), (91, .iconst 1, 1, 0, 0, 0), (92, .goto 4, 3, 0, 0, 0), (95, .iconst 0, 1, 0, 0, 0), (96, .ireturn, 1, 0, 0, 0), (97, .aload_n 0, 1, 0, 0, 0), (98, .dup, 1, 0, 0, 0), (99, .getfield 24, 3, 5, 4, 0), (102, .iconst 1, 1, 0, 0, 0), (103, .isub, 1, 0, 0, 0), (104, .putfield 24, 3, 5, 4, 0), (107, .aload_n 0, 1, 0, 0, 0), (108, .getfield 24, 3, 5, 4, 0), (111, .ifCond .lt 7, 3, 0, 0, 0), (114, .iconst 1, 1, 0, 0, 0), (115, .goto 4, 3, 0, 0, 0), (118, .iconst 0, 1, 0, 0, 0), (119, .ireturn, 1, 0, 0, 0), (120, .iconst 0, 1, 0, 0, 0), (121, .ireturn, 1, 0, 0, 0)]
def px_t49 : List (Nat × px_K) := [(0, .iload_n 1, 1, 0, 0, 0), (1, .iconst 1, 1, 0, 0, 0), (2, .if_icmp .lt 14, 3, 0, 0, 0), (5, .aload_n 0, 1, 0, 0, 0), (6, .getfield 21, 3, 5, 3, 0), (9, .iload_n 1, 1, 0, 0, 0), (10, .iadd, 1, 0, 0, 0), (11, .bipush 10, 2, 0, 0, 0), (13, .if_icmp .lt 5, 3, 0, 0, 0), (16, .iconst 0, 1, 0, 0, 0), (17, .ireturn, 1, 0, 0, 0), (18, .aload_n 0, 1, 0, 0, 0), (19, .dup, 1, 0, 0, 0), (20, .getfield 21, 3, 5, 3, 0), (23, .iload_n 1, 1, 0, 0, 0), (24, .iadd, 1, 0, 0, 0), (25, .putfield 21, 3, 5, 3, 0), (28, .aload_n 0, 1, 0, 0, 0), (29, .iconst 0, 1, 0, 0, 0), (30, .putfield 11, 3, 5, 0, 0), (33, .iconst 1, 1, 0, 0, 0), (34, .ireturn, 1, 0, 0, 0)]
def px_t50 : List (Nat × px_K) := [(0, .iload_n 1, 1, 0, 0, 0), (1, .bipush 48, 2, 0, 0, 0), (3, .isub, 1, 0, 0, 0), (4, .istore 5, 2, 0, 0, 0), (6, .aload_n 0, 1, 0, 0, 0), (7, .iload 4, 2, 0, 0, 0), (9, .putfield 11, 3, 5, 0, 0), (12, .iload 5, 2, 0, 0, 0), (14, .iload_n 2, 1, 0, 0, 0), (15, .if_icmp .lt 13, 3, 0, 0, 0), (18, .iload 5, 2, 0, 0, 0), (20, .iload_n 3, 1, 0, 0, 0), (21, .if_icmp .gt 7, 3, 0, 0, 0), (24, .iconst 1, 1, 0, 0, 0), (25, .goto 4, 3, 0, 0, 0), (28, .iconst 0, 1, 0, 0, 0), (29, .ireturn, 1, 0, 0, 0)]
def px_t51 : List (Nat × px_K) := [(0, .iload_n 1, 1, 0, 0, 0), (1, .bipush 47, 2, 0, 0, 0), (3, .if_icmp .ne 21, 3, 0, 0, 0), (6, .aload_n 0, 1, 0, 0, 0), (7, .invokevirtual 62, 3, 52, 0, 0), (10, .aload_n 0, 1, 0, 0, 0), (11, .getfield 15, 3, 5, 1, 0), (14, .iconst 3, 1, 0, 0, 0), (15, .if_icmp .gt 7, 3, 0, 0, 0), (18, .iconst 1, 1, 0, 0, 0), (19, .goto 4, 3, 0, 0, 0), (22, .iconst 0, 1, 0, 0, 0), (23, .ireturn, 1, 0, 0, 0), (24, .aload_n 0, 1, 0, 0, 0), (25, .dup, 1, 0, 0, 0), (26, .getfield 27, 3, 5, 5, 0), (29, .iconst 1, 1, 0, 0, 0), (30, .iadd, 1, 0, 0, 0), (31, .putfield 27, 3, 5, 5, 0), (34, .aload_n 0, 1, 0, 0, 0), (35, .bipush 6, 2, 0, 0, 0), (37, .putfield 11, 3, 5, 0, 0), (40, .aload_n 0, 1, 0, 0, 0), (41, .getfield 27, 3, 5, 5, 0), (44, .iconst 3, 1, 0, 0, 0), (45, .if_icmp .gt 15, 3, 0, 0, 0), (48, .iload_n 1, 1, 0, 0, 0), (49, .invokestatic 65, 3, 104, 1, 1), (52, .iconst (-1), 1, 0, 0, 0), (53, .if_icmp .eq 7, 3, 0, 0, 0), (56, .iconst 1, 1, 0, 0, 0), (57, .goto 4, 3, 0, 0, 0), (60, .iconst 0, 1, 0, 0, 0), (61, .ireturn, 1, 0, 0, 0)]
def px_t52 : List (Nat × px_K) := [(0, .aload_n 0, 1, 0, 0, 0), (1, .dup, 1, 0, 0, 0), (2, .getfield 15, 3, 5, 1, 0), (5, .iconst 1, 1, 0, 0, 0), (6, .iadd, 1, 0, 0, 0), (7, .putfield 15, 3, 5, 1, 0), (10, .aload_n 0, 1, 0, 0, 0), (11, .iconst 0, 1, 0, 0, 0), (12, .putfield 11, 3, 5, 0, 0), (15, .aload_n 0, 1, 0, 0, 0), (16, .iconst 0, 1, 0, 0, 0), (17, .putfield 18, 3, 5, 2, 0), (20, .aload_n 0, 1, 0, 0, 0), (21, .iconst 0, 1, 0, 0, 0), (22, .putfield 21, 3, 5, 3, 0), (25, .aload_n 0, 1, 0, 0, 0), (26, .iconst 0, 1, 0, 0, 0), (27, .putfield 24, 3, 5, 4, 0), (30, .aload_n 0, 1, 0, 0, 0), (31, .iconst 0, 1, 0, 0, 0), (32, .putfield 27, 3, 5, 5, 0), (35, .return_, 1, 0, 0, 0)]
def px_t53 : List (Nat × px_K) := [(0, .aload_n 0, 1, 0, 0, 0), (1, .invokespecial 3, 3, 1000, 0, 0), (4, .aload_n 0, 1, 0, 0, 0), (5, .iconst 4, 1, 0, 0, 0), (6, .newarray .int, 2, 0, 0, 0), (8, .putfield 9, 3, 6, 2, 0), (11, .aload_n 0, 1, 0, 0, 0), (12, .bipush 12, 2, 0, 0, 0), (14, .newarray .int, 2, 0, 0, 0), (16, .putfield 15, 3, 6, 3, 0), (19, .aload_n 0, 1, 0, 0, 0), (20, .iconst 0, 1, 0, 0, 0), (21, .putfield 18, 3, 6, 4, 0), (24, .aload_n 0, 1, 0, 0, 0), (25, .iconst 0, 1, 0, 0, 0), (26, .putfield 22, 3, 6, 5, 0), (29, .aload_n 0, 1, 0, 0, 0), (30, .iconst 0, 1, 0, 0, 0), (31, .putfield 25, 3, 6, 6, 0), (34, .aload_n 0, 1, 0, 0, 0), (35, .iconst 0, 1, 0, 0, 0), (36, .putfield 28, 3, 6, 7, 0), (39, .aload_n 0, 1, 0, 0, 0), (40, .aload_n 1, 1, 0, 0, 0), (41, .putfield 31, 3, 6, 0, 0), (44, .aload_n 0, 1, 0, 0, 0), (45, .aload_n 2, 1, 0, 0, 0), (46, .putfield 35, 3, 6, 1, 0), (49, .return_, 1, 0, 0, 0)]
def px_t54 : List (Nat × px_K) := [(0, .iconst 0, 1, 0, 0, 0), (1, .istore_n 1, 1, 0, 0, 0), (2, .iload_n 1, 1, 0, 0, 0), (3, .iconst 3, 1, 0, 0, 0), (4, .if_icmp .ge 66, 3, 0, 0, 0), (7, .aload_n 0, 1, 0, 0, 0), (8, .getfield 22, 3, 6, 5, 0), (11, .aload_n 0, 1, 0, 0, 0), (12, .getfield 31, 3, 6, 0, 0), (15, .getfield 39, 3, 4, 1, 0), (18, .if_icmp .ge 52, 3, 0, 0, 0), (21, .aload_n 0, 1, 0, 0, 0), (22, .iload_n 1, 1, 0, 0, 0), (23, .invokevirtual 44, 3, 55, 1, 0), (26, .aload_n 0, 1, 0, 0, 0), (27, .dup, 1, 0, 0, 0), (28, .getfield 22, 3, 6, 5, 0), (31, .iconst 1, 1, 0, 0, 0), (32, .iadd, 1, 0, 0, 0), (33, .putfield 22, 3, 6, 5, 0), (36, .aload_n 0, 1, 0, 0, 0), (37, .iload_n 1, 1, 0, 0, 0), (38, .invokevirtual 48, 3, 61, 1, 0), (41, .aload_n 0, 1, 0, 0, 0), (42, .dup, 1, 0, 0, 0), (43, .getfield 22, 3, 6, 5, 0), (46, .iconst 1, 1, 0, 0, 0), (47, .iadd, 1, 0, 0, 0), (48, .putfield 22, 3, 6, 5, 0), (51, .aload_n 0, 1, 0, 0, 0), (52, .getfield 35, 3, 6, 1, 0), (55, .dup, 1, 0, 0, 0), (56, .getfield 51, 3, 0, 0, 0), (59, .iconst 1, 1, 0, 0, 0), (60, .iadd, 1, 0, 0, 0), (61, .putfield 51, 3, 0, 0, 0), (64, .iinc 1 1, 3, 0, 0, 0), (67, .goto (-65), 3, 0, 0, 0), (70, .return_, 1, 0, 0, 0)]
def px_t55 : List (Nat × px_K) := [(0, .aload_n 0, 1, 0, 0, 0), (1, .getfield 9, 3, 6, 2, 0), (4, .iconst (-1), 1, 0, 0, 0), (5, .invokestatic 56, 3, 187, 2, 0), (8, .aload_n 0, 1, 0, 0, 0), (9, .iconst 0, 1, 0, 0, 0), (10, .putfield 18, 3, 6, 4, 0), (13, .aload_n 0, 1, 0, 0, 0), (14, .iconst 0, 1, 0, 0, 0), (15, .putfield 25, 3, 6, 6, 0), (18, .aload_n 0, 1, 0, 0, 0), (19, .iconst 0, 1, 0, 0, 0), (20, .putfield 28, 3, 6, 7, 0), (23, .iconst 0, 1, 0, 0, 0), (24, .istore_n 2, 1, 0, 0, 0), (25, .iload_n 2, 1, 0, 0, 0), (26, .bipush 8, 2, 0, 0, 0), (28, .if_icmp .ge 30, 3, 0, 0, 0), (31, .aload_n 0, 1, 0, 0, 0), (32, .getfield 31, 3, 6, 0, 0), (35, .aload_n 0, 1, 0, 0, 0), (36, .getfield 22, 3, 6, 5, 0), (39, .invokevirtual 62, 3, 41, 1, 0), (42, .bipush 59, 2, 0, 0, 0), (44, .if_icmp .eq 14, 3, 0, 0, 0), (47, .aload_n 0, 1, 0, 0, 0), (48, .iload_n 1, 1, 0, 0, 0), (49, .invokevirtual 66, 3, 56, 1, 0), (52, .iinc 2 1, 3, 0, 0, 0), (55, .goto (-30), 3, 0, 0, 0), (58, .aload_n 0, 1, 0, 0, 0), (59, .iload_n 1, 1, 0, 0, 0), (60, .bipush 10, 2, 0, 0, 0), (62, .invokevirtual 69, 3, 60, 2, 0), (65, .return_, 1, 0, 0, 0)]
def px_t56 : List (Nat × px_K) := [(0, .aload_n 0, 1, 0, 0, 0), (1, .getfield 31, 3, 6, 0, 0), (4, .aload_n 0, 1, 0, 0, 0), (5, .getfield 22, 3, 6, 5, 0), (8, .invokevirtual 62, 3, 41, 1, 0), (11, .istore_n 2, 1, 0, 0, 0), (12, .aload_n 0, 1, 0, 0, 0), (13, .getfield 31, 3, 6, 0, 0), (16, .aload_n 0, 1, 0, 0, 0), (17, .getfield 22, 3, 6, 5, 0), (20, .iconst 1, 1, 0, 0, 0), (21, .iadd, 1, 0, 0, 0), (22, .invokevirtual 73, 3, 42, 1, 0), (25, .istore_n 3, 1, 0, 0, 0), (26, .iload_n 2, 1, 0, 0, 0), (27, .bipush 43, 2, 0, 0, 0), (29, .if_icmp .ne 25, 3, 0, 0, 0), (32, .aload_n 0, 1, 0, 0, 0), (33, .iload_n 1, 1, 0, 0, 0), (34, .aload_n 0, 1, 0, 0, 0), (35, .getfield 25, 3, 6, 6, 0), (38, .iload_n 3, 1, 0, 0, 0), (39, .iadd, 1, 0, 0, 0), (40, .invokevirtual 69, 3, 60, 2, 0), (43, .aload_n 0, 1, 0, 0, 0), (44, .dup, 1, 0, 0, 0), (45, .getfield 22, 3, 6, 5, 0), (48, .iconst 2, 1, 0, 0, 0), (49, .iadd, 1, 0, 0, 0), (50, .putfield 22, 3, 6, 5, 0), (53, .return_, 1, 0, 0, 0), (54, .aload_n 0, 1, 0, 0, 0), (55, .aload_n 0, 1, 0, 0, 0), (56, .getfield 25, 3, 6, 6, 0), (59, .putfield 28, 3, 6, 7, 0), (62, .iload_n 2, 1, 0, 0, 0), (63, .bipush 115, 2, 0, 0, 0), (65, .if_icmp .ne 35, 3, 0, 0, 0), (68, .aload_n 0, 1, 0, 0, 0), (69, .iload_n 1, 1, 0, 0, 0), (70, .iload_n 3, 1, 0, 0, 0), (71, .aload_n 0, 1, 0, 0, 0), (72, .getfield 31, 3, 6, 0, 0), (75, .aload_n 0, 1, 0, 0, 0), (76, .getfield 22, 3, 6, 5, 0), (79, .iconst 2, 1, 0, 0, 0), (80, .iadd, 1, 0, 0, 0), (81, .invokevirtual 73, 3, 42, 1, 0), (84, .invokevirtual 76, 3, 57, 3, 0), (87, .aload_n 0, 1, 0, 0, 0), (88, .dup, 1, 0, 0, 0), (89, .getfield 22, 3, 6, 5, 0), (92, .iconst 3, 1, 0, 0, 0), (93, .iadd, 1, 0, 0, 0), (94, .putfield 22, 3, 6, 5, 0), (97, .goto 42, 3, 0, 0, 0), (100, .iload_n 2, 1, 0, 0, 0), (101, .bipush 117, 2, 0, 0, 0), (103, .if_icmp .ne 21, 3, 0, 0, 0), (106, .aload_n 0, 1, 0, 0, 0), (107, .iload_n 3, 1, 0, 0, 0), (108, .invokevirtual 80, 3, 58, 1, 0), (111, .aload_n 0, 1, 0, 0, 0), (112, .dup, 1, 0, 0, 0), (113, .getfield 22, 3, 6, 5, 0), (116, .iconst 2, 1, 0, 0, 0), (117, .iadd, 1, 0, 0, 0), (118, .putfield 22, 3, 6, 5, 0), (121, .goto 18, 3, 0, 0, 0), (124, .aload_n 0, 1, 0, 0, 0), (125, .iload_n 2, 1, 0, 0, 0), (126, .invokevirtual 83, 3, 59, 1, 0), (129, .aload_n 0, 1, 0, 0, 0), (130, .dup, 1, 0, 0, 0), (131, .getfield 22, 3, 6, 5, 0), (134, .iconst 1, 1, 0, 0, 0), (135, .iadd, 1, 0, 0, 0), (136, .putfield 22, 3, 6, 5, 0), (139, .return_, 1, 0, 0, 0)]
def px_t57 : List (Nat × px_K) := [(0, .iload_n 2, 1, 0, 0, 0), (1, .iconst 4, 1, 0, 0, 0), (2, .invokestatic 86, 3, 102, 2, 1), (5, .ifCond .eq 33, 3, 0, 0, 0), (8, .iload_n 3, 1, 0, 0, 0), (9, .bipush 6, 2, 0, 0, 0), (11, .invokestatic 86, 3, 102, 2, 1), (14, .ifCond .eq 24, 3, 0, 0, 0), (17, .aload_n 0, 1, 0, 0, 0), (18, .getfield 9, 3, 6, 2, 0), (21, .iload_n 2, 1, 0, 0, 0), (22, .iload_n 3, 1, 0, 0, 0), (23, .iastore, 1, 0, 0, 0), (24, .aload_n 0, 1, 0, 0, 0), (25, .getfield 35, 3, 6, 1, 0), (28, .iload_n 1, 1, 0, 0, 0), (29, .aload_n 0, 1, 0, 0, 0), (30, .getfield 25, 3, 6, 6, 0), (33, .iload_n 2, 1, 0, 0, 0), (34, .iload_n 3, 1, 0, 0, 0), (35, .invokevirtual 90, 3, 11, 4, 0), (38, .return_, 1, 0, 0, 0)]
def px_t58 : List (Nat × px_K) := [(0, .iload_n 1, 1, 0, 0, 0), (1, .iconst 4, 1, 0, 0, 0), (2, .invokestatic 86, 3, 102, 2, 1), (5, .ifCond .eq 10, 3, 0, 0, 0), (8, .aload_n 0, 1, 0, 0, 0), (9, .getfield 9, 3, 6, 2, 0), (12, .iload_n 1, 1, 0, 0, 0), (13, .iconst (-1), 1, 0, 0, 0), (14, .iastore, 1, 0, 0, 0), (15, .return_, 1, 0, 0, 0)]
def px_t59 : List (Nat × px_K) := [(0, .iload_n 1, 1, 0, 0, 0), (1, .bipush 109, 2, 0, 0, 0), (3, .if_icmp .ne 43, 3, 0, 0, 0), (6, .aload_n 0, 1, 0, 0, 0), (7, .getfield 18, 3, 6, 4, 0), (10, .iconst 3, 1, 0, 0, 0), (11, .if_icmp .ge 35, 3, 0, 0, 0), (14, .aload_n 0, 1, 0, 0, 0), (15, .getfield 9, 3, 6, 2, 0), (18, .iconst 0, 1, 0, 0, 0), (19, .aload_n 0, 1, 0, 0, 0), (20, .getfield 15, 3, 6, 3, 0), (23, .aload_n 0, 1, 0, 0, 0), (24, .getfield 18, 3, 6, 4, 0), (27, .iconst 4, 1, 0, 0, 0), (28, .imul, 1, 0, 0, 0), (29, .iconst 4, 1, 0, 0, 0), (30, .invokestatic 94, 3, 1001, 0, 0), (33, .aload_n 0, 1, 0, 0, 0), (34, .dup, 1, 0, 0, 0), (35, .getfield 18, 3, 6, 4, 0), (38, .iconst 1, 1, 0, 0, 0), (39, .iadd, 1, 0, 0, 0), (40, .putfield 18, 3, 6, 4, 0), (43, .goto 45, 3, 0, 0, 0), (46, .iload_n 1, 1, 0, 0, 0), (47, .bipush 98, 2, 0, 0, 0), (49, .if_icmp .ne 39, 3, 0, 0, 0), (52, .aload_n 0, 1, 0, 0, 0), (53, .getfield 18, 3, 6, 4, 0), (56, .ifCond .le 32, 3, 0, 0, 0), (59, .aload_n 0, 1, 0, 0, 0), (60, .dup, 1, 0, 0, 0), (61, .getfield 18, 3, 6, 4, 0), (64, .iconst 1, 1, 0, 0, 0), (65, .isub, 1, 0, 0, 0), (66, .putfield 18, 3, 6, 4, 0), (69, .aload_n 0, 1, 0, 0, 0), (70, .getfield 15, 3, 6, 3, 0), (73, .aload_n 0, 1, 0, 0, 0), (74, .getfield 18, 3, 6, 4, 0), (77, .iconst 4, 1, 0, 0, 0), (78, .imul, 1, 0, 0, 0), (79, .aload_n 0, 1, 0, 0, 0), (80, .getfield 9, 3, 6, 2, 0), (83, .iconst 0, 1, 0, 0, 0), (84, .iconst 4, 1, 0, 0, 0), (85, .invokestatic 94, 3, 1001, 0, 0), (88, .return_, 1, 0, 0, 0)]
def px_t60 : List (Nat × px_K) := [(0, .aload_n 0, 1, 0, 0, 0), (1, .getfield 25, 3, 6, 6, 0), (4, .istore_n 3, 1, 0, 0, 0), (5, .iload_n 3, 1, 0, 0, 0), (6, .iload_n 2, 1, 0, 0, 0), (7, .if_icmp .ge 76, 3, 0, 0, 0), (10, .iload_n 3, 1, 0, 0, 0), (11, .bipush 10, 2, 0, 0, 0), (13, .if_icmp .ge 70, 3, 0, 0, 0), (16, .iconst 0, 1, 0, 0, 0), (17, .istore 4, 2, 0, 0, 0), (19, .iload 4, 2, 0, 0, 0), (21, .iconst 4, 1, 0, 0, 0), (22, .if_icmp .ge 27, 3, 0, 0, 0), (25, .aload_n 0, 1, 0, 0, 0), (26, .getfield 35, 3, 6, 1, 0), (29, .iload_n 1, 1, 0, 0, 0), (30, .iload_n 3, 1, 0, 0, 0), (31, .iload 4, 2, 0, 0, 0), (33, .aload_n 0, 1, 0, 0, 0), (34, .getfield 9, 3, 6, 2, 0), (37, .iload 4, 2, 0, 0, 0), (39, .iaload, 1, 0, 0, 0), (40, .invokevirtual 100, 3, 2, 4, 0), (43, .iinc 4 1, 3, 0, 0, 0), (46, .goto (-27), 3, 0, 0, 0), (49, .aload_n 0, 1, 0, 0, 0), (50, .getfield 35, 3, 6, 1, 0), (53, .iload_n 1, 1, 0, 0, 0), (54, .iload_n 3, 1, 0, 0, 0), (55, .iconst 4, 1, 0, 0, 0), (56, .aload_n 0, 1, 0, 0, 0), (57, .getfield 18, 3, 6, 4, 0), (60, .invokevirtual 100, 3, 2, 4, 0), (63, .aload_n 0, 1, 0, 0, 0), (64, .getfield 35, 3, 6, 1, 0), (67, .iload_n 1, 1, 0, 0, 0), (68, .iload_n 3, 1, 0, 0, 0), (69, .iconst 5, 1, 0, 0, 0), (70, .aload_n 0, 1, 0, 0, 0), (71, .getfield 28, 3, 6, 7, 0), (74, .invokevirtual 100, 3, 2, 4, 0), (77, .iinc 3 1, 3, 0, 0, 0), (80, .goto (-75), 3, 0, 0, 0), (83, .aload_n 0, 1, 0, 0, 0), (84, .iload_n 2, 1, 0, 0, 0), (85, .putfield 25, 3, 6, 6, 0), (88, .return_, 1, 0, 0, 0)]
def px_t61 : List (Nat × px_K) := [(0, .iconst 0, 1, 0, 0, 0), (1, .istore_n 2, 1, 0, 0, 0), (2, .iload_n 2, 1, 0, 0, 0), (3, .iconst 3, 1, 0, 0, 0), (4, .if_icmp .ge 108, 3, 0, 0, 0), (7, .aload_n 0, 1, 0, 0, 0), (8, .getfield 31, 3, 6, 0, 0), (11, .aload_n 0, 1, 0, 0, 0), (12, .getfield 22, 3, 6, 5, 0), (15, .invokevirtual 62, 3, 41, 1, 0), (18, .invokestatic 103, 3, 104, 1, 1), (21, .iconst (-1), 1, 0, 0, 0), (22, .if_icmp .eq 90, 3, 0, 0, 0), (25, .aload_n 0, 1, 0, 0, 0), (26, .getfield 35, 3, 6, 1, 0), (29, .iload_n 1, 1, 0, 0, 0), (30, .iload_n 2, 1, 0, 0, 0), (31, .iconst 0, 1, 0, 0, 0), (32, .aload_n 0, 1, 0, 0, 0), (33, .getfield 31, 3, 6, 0, 0), (36, .aload_n 0, 1, 0, 0, 0), (37, .getfield 22, 3, 6, 5, 0), (40, .invokevirtual 62, 3, 41, 1, 0), (43, .invokestatic 103, 3, 104, 1, 1), (46, .invokevirtual 106, 3, 6, 4, 0), (49, .iconst 1, 1, 0, 0, 0), (50, .istore_n 3, 1, 0, 0, 0), (51, .iload_n 3, 1, 0, 0, 0), (52, .iconst 5, 1, 0, 0, 0), (53, .if_icmp .ge 32, 3, 0, 0, 0), (56, .aload_n 0, 1, 0, 0, 0), (57, .getfield 35, 3, 6, 1, 0), (60, .iload_n 1, 1, 0, 0, 0), (61, .iload_n 2, 1, 0, 0, 0), (62, .iload_n 3, 1, 0, 0, 0), (63, .aload_n 0, 1, 0, 0, 0), (64, .getfield 31, 3, 6, 0, 0), (67, .aload_n 0, 1, 0, 0, 0), (68, .getfield 22, 3, 6, 5, 0), (71, .iload_n 3, 1, 0, 0, 0), (72, .iadd, 1, 0, 0, 0), (73, .invokevirtual 73, 3, 42, 1, 0), (76, .invokevirtual 106, 3, 6, 4, 0), (79, .iinc 3 1, 3, 0, 0, 0), (82, .goto (-31), 3, 0, 0, 0), (85, .aload_n 0, 1, 0, 0, 0), (86, .getfield 35, 3, 6, 1, 0), (89, .iload_n 1, 1, 0, 0, 0), (90, .iload_n 2, 1, 0, 0, 0), (91, .iconst 1, 1, 0, 0, 0), (92, .iadd, 1, 0, 0, 0), (93, .invokevirtual 109, 3, 4, 2, 0), (96, .aload_n 0, 1, 0, 0, 0), (97, .dup, 1, 0, 0, 0), (98, .getfield 22, 3, 6, 5, 0), (101, .iconst 5, 1, 0, 0, 0), (102, .iadd, 1, 0, 0, 0), (103, .putfield 22, 3, 6, 5, 0), (106, .iinc 2 1, 3, 0, 0, 0), (109, .goto (-107), 3, 0, 0, 0), (112, .return_, 1, 0, 0, 0)]
def px_t62 : List (Nat × px_K) := [(0, .aload_n 0, 1, 0, 0, 0), (1, .invokespecial 3, 3, 1000, 0, 0), (4, .aload_n 0, 1, 0, 0, 0), (5, .bipush 6, 2, 0, 0, 0), (7, .newarray .int, 2, 0, 0, 0), (9, .putfield 9, 3, 7, 0, 0), (12, .aload_n 0, 1, 0, 0, 0), (13, .bipush 6, 2, 0, 0, 0), (15, .newarray .int, 2, 0, 0, 0), (17, .putfield 15, 3, 7, 1, 0), (20, .aload_n 0, 1, 0, 0, 0), (21, .bipush 6, 2, 0, 0, 0), (23, .newarray .int, 2, 0, 0, 0), (25, .putfield 18, 3, 7, 2, 0), (28, .aload_n 0, 1, 0, 0, 0), (29, .iconst 0, 1, 0, 0, 0), (30, .putfield 21, 3, 7, 3, 0), (33, .return_, 1, 0, 0, 0)]
def px_t63 : List (Nat × px_K) := [(0, .aload_n 0, 1, 0, 0, 0), (1, .getfield 21, 3, 7, 3, 0), (4, .bipush 6, 2, 0, 0, 0), (6, .if_icmp .ge 43, 3, 0, 0, 0), (9, .aload_n 0, 1, 0, 0, 0), (10, .getfield 9, 3, 7, 0, 0), (13, .aload_n 0, 1, 0, 0, 0), (14, .getfield 21, 3, 7, 3, 0), (17, .iload_n 1, 1, 0, 0, 0), (18, .iastore, 1, 0, 0, 0), (19, .aload_n 0, 1, 0, 0, 0), (20, .getfield 15, 3, 7, 1, 0), (23, .aload_n 0, 1, 0, 0, 0), (24, .getfield 21, 3, 7, 3, 0), (27, .iload_n 2, 1, 0, 0, 0), (28, .iastore, 1, 0, 0, 0), (29, .aload_n 0, 1, 0, 0, 0), (30, .getfield 18, 3, 7, 2, 0), (33, .aload_n 0, 1, 0, 0, 0), (34, .getfield 21, 3, 7, 3, 0), (37, .iload_n 3, 1, 0, 0, 0), (38, .iastore, 1, 0, 0, 0), (39, .aload_n 0, 1, 0, 0, 0), (40, .dup, 1, 0, 0, 0), (41, .getfield 21, 3, 7, 3, 0), (44, .iconst 1, 1, 0, 0, 0), (45, .iadd, 1, 0, 0, 0), (46, .putfield 21, 3, 7, 3, 0), (49, .return_, 1, 0, 0, 0)]
def px_t64 : List (Nat × px_K) := [(0, .iconst 0, 1, 0, 0, 0), (1, .istore_n 3, 1, 0, 0, 0), (2, .iconst 0, 1, 0, 0, 0), (3, .istore 4, 2, 0, 0, 0), (5, .iload 4, 2, 0, 0, 0), (7, .iconst 5, 1, 0, 0, 0), (8, .if_icmp .ge 27, 3, 0, 0, 0), (11, .aload_n 0, 1, 0, 0, 0), (12, .iload 4, 2, 0, 0, 0), (14, .iload_n 1, 1, 0, 0, 0), (15, .iload_n 2, 1, 0, 0, 0), (16, .invokevirtual 25, 3, 65, 3, 0), (19, .ifCond .eq 10, 3, 0, 0, 0), (22, .iload_n 3, 1, 0, 0, 0), (23, .iconst 1, 1, 0, 0, 0), (24, .iload 4, 2, 0, 0, 0), (26, .ishl, 1, 0, 0, 0), (27, .ior, 1, 0, 0, 0), (28, .istore_n 3, 1, 0, 0, 0), (29, .iinc 4 1, 3, 0, 0, 0), (32, .goto (-27), 3, 0, 0, 0), (35, .iload_n 3, 1, 0, 0, 0), (36, .ireturn, 1, 0, 0, 0)]
def px_t65 : List (Nat × px_K) := [(0, .iconst 0, 1, 0, 0, 0), (1, .istore 4, 2, 0, 0, 0), (3, .iload 4, 2, 0, 0, 0), (5, .aload_n 0, 1, 0, 0, 0), (6, .getfield 21, 3, 7, 3, 0), (9, .if_icmp .ge 44, 3, 0, 0, 0), (12, .aload_n 0, 1, 0, 0, 0), (13, .getfield 9, 3, 7, 0, 0), (16, .iload 4, 2, 0, 0, 0), (18, .iaload, 1, 0, 0, 0), (19, .iload_n 2, 1, 0, 0, 0), (20, .if_icmp .ne 27, 3, 0, 0, 0), (23, .iload_n 1, 1, 0, 0, 0), (24, .iload_n 3, 1, 0, 0, 0), (25, .aload_n 0, 1, 0, 0, 0), (26, .getfield 15, 3, 7, 1, 0), (29, .iload 4, 2, 0, 0, 0), (31, .iaload, 1, 0, 0, 0), (32, .invokestatic 29, 3, 106, 3, 1), (35, .aload_n 0, 1, 0, 0, 0), (36, .getfield 18, 3, 7, 2, 0), (39, .iload 4, 2, 0, 0, 0), (41, .iaload, 1, 0, 0, 0), (42, .if_icmp .eq 5, 3, 0, 0, 0), (45, .iconst 0, 1, 0, 0, 0), (46, .ireturn, 1, 0, 0, 0), (47, .iinc 4 1, 3, 0, 0, 0), (50, .goto (-47), 3, 0, 0, 0), (53, .iconst 1, 1, 0, 0, 0), (54, .ireturn, 1, 0, 0, 0)]
def px_t66 : List (Nat × px_K) := [(0, .aload_n 1, 1, 0, 0, 0), (1, .getfield 9, 3, 7, 0, 0), (4, .iconst 0, 1, 0, 0, 0), (5, .aload_n 0, 1, 0, 0, 0), (6, .getfield 9, 3, 7, 0, 0), (9, .iconst 0, 1, 0, 0, 0), (10, .bipush 6, 2, 0, 0, 0), (12, .invokestatic 33, 3, 1001, 0, 0), (15, .aload_n 1, 1, 0, 0, 0), (16, .getfield 15, 3, 7, 1, 0), (19, .iconst 0, 1, 0, 0, 0), (20, .aload_n 0, 1, 0, 0, 0), (21, .getfield 15, 3, 7, 1, 0), (24, .iconst 0, 1, 0, 0, 0), (25, .bipush 6, 2, 0, 0, 0), (27, .invokestatic 33, 3, 1001, 0, 0), (30, .aload_n 1, 1, 0, 0, 0), (31, .getfield 18, 3, 7, 2, 0), (34, .iconst 0, 1, 0, 0, 0), (35, .aload_n 0, 1, 0, 0, 0), (36, .getfield 18, 3, 7, 2, 0), (39, .iconst 0, 1, 0, 0, 0), (40, .bipush 6, 2, 0, 0, 0), (42, .invokestatic 33, 3, 1001, 0, 0), (45, .aload_n 0, 1, 0, 0, 0), (46, .aload_n 1, 1, 0, 0, 0), (47, .getfield 21, 3, 7, 3, 0), (50, .putfield 21, 3, 7, 3, 0), (53, .return_, 1, 0, 0, 0)]
def px_t67 : List (Nat × px_K) := [(0, .aload_n 0, 1, 0, 0, 0), (1, .invokespecial 1, 3, 1000, 0, 0), (4, .aload_n 0, 1, 0, 0, 0), (5, .new 7, 3, 4, 2, 0), (8, .dup, 1, 0, 0, 0), (9, .invokespecial 9, 3, 39, 0, 1), (12, .putfield 10, 3, 8, 0, 0), (15, .aload_n 0, 1, 0, 0, 0), (16, .new 16, 3, 2, 3, 0), (19, .dup, 1, 0, 0, 0), (20, .invokespecial 18, 3, 19, 0, 1), (23, .putfield 19, 3, 8, 1, 0), (26, .aload_n 0, 1, 0, 0, 0), (27, .new 16, 3, 2, 3, 0), (30, .dup, 1, 0, 0, 0), (31, .invokespecial 18, 3, 19, 0, 1), (34, .putfield 23, 3, 8, 2, 0), (37, .aload_n 0, 1, 0, 0, 0), (38, .new 26, 3, 7, 4, 0), (41, .dup, 1, 0, 0, 0), (42, .invokespecial 28, 3, 62, 0, 1), (45, .putfield 29, 3, 8, 3, 0), (48, .aload_n 0, 1, 0, 0, 0), (49, .new 26, 3, 7, 4, 0), (52, .dup, 1, 0, 0, 0), (53, .invokespecial 28, 3, 62, 0, 1), (56, .putfield 33, 3, 8, 4, 0), (59, .aload_n 0, 1, 0, 0, 0), (60, .new 36, 3, 3, 9, 0), (63, .dup, 1, 0, 0, 0), (64, .new 38, 3, 0, 6, 0), (67, .dup, 1, 0, 0, 0), (68, .invokespecial 40, 3, 0, 0, 1), (71, .invokespecial 41, 3, 24, 1, 0), (74, .putfield 44, 3, 8, 5, 0), (77, .aload_n 0, 1, 0, 0, 0), (78, .aconst_null, 1, 0, 0, 0), (79, .putfield 48, 3, 8, 6, 0), (82, .aload_n 0, 1, 0, 0, 0), (83, .iconst 0, 1, 0, 0, 0), (84, .putfield 51, 3, 8, 7, 0), (87, .return_, 1, 0, 0, 0)]
def px_t68 : List (Nat × px_K) := [(0, .iload_n 1, 1, 0, 0, 0), (1, .iconst 1, 1, 0, 0, 0), (2, .if_icmp .lt 9, 3, 0, 0, 0), (5, .iload_n 1, 1, 0, 0, 0), (6, .bipush 126, 2, 0, 0, 0), (8, .if_icmp .le 6, 3, 0, 0, 0), (11, .bipush (-102), 2, 0, 0, 0), (13, .ireturn, 1, 0, 0, 0), (14, .aload_n 0, 1, 0, 0, 0), (15, .getfield 10, 3, 8, 0, 0), (18, .getfield 55, 3, 4, 1, 0), (21, .bipush 100, 2, 0, 0, 0), (23, .if_icmp .lt 6, 3, 0, 0, 0), (26, .bipush (-104), 2, 0, 0, 0), (28, .ireturn, 1, 0, 0, 0), (29, .aload_n 0, 1, 0, 0, 0), (30, .getfield 10, 3, 8, 0, 0), (33, .iload_n 1, 1, 0, 0, 0), (34, .invokevirtual 58, 3, 40, 1, 0), (37, .aload_n 0, 1, 0, 0, 0), (38, .getfield 10, 3, 8, 0, 0), (41, .getfield 55, 3, 4, 1, 0), (44, .ireturn, 1, 0, 0, 0)]
def px_t69 : List (Nat × px_K) := [(0, .aload_n 0, 1, 0, 0, 0), (1, .getfield 10, 3, 8, 0, 0), (4, .getfield 55, 3, 4, 1, 0), (7, .istore_n 1, 1, 0, 0, 0), (8, .aload_n 0, 1, 0, 0, 0), (9, .getfield 10, 3, 8, 0, 0), (12, .iconst 0, 1, 0, 0, 0), (13, .putfield 55, 3, 4, 1, 0), (16, .iload_n 1, 1, 0, 0, 0), (17, .ireturn, 1, 0, 0, 0)]
def px_t70 : List (Nat × px_K) := [(0, .new 62, 3, 5, 7, 0), (3, .dup, 1, 0, 0, 0), (4, .invokespecial 64, 3, 43, 0, 1), (7, .aload_n 0, 1, 0, 0, 0), (8, .getfield 10, 3, 8, 0, 0), (11, .invokevirtual 65, 3, 44, 1, 0), (14, .ireturn, 1, 0, 0, 0)]
def px_t71 : List (Nat × px_K) := [(0, .new 62, 3, 5, 7, 0), (3, .dup, 1, 0, 0, 0), (4, .invokespecial 64, 3, 43, 0, 1), (7, .astore_n 1, 1, 0, 0, 0), (8, .aload_n 1, 1, 0, 0, 0), (9, .aload_n 0, 1, 0, 0, 0), (10, .getfield 10, 3, 8, 0, 0), (13, .invokevirtual 65, 3, 44, 1, 0), (16, .aload_n 0, 1, 0, 0, 0), (17, .getfield 10, 3, 8, 0, 0), (20, .getfield 55, 3, 4, 1, 0), (23, .if_icmp .lt 10, 3, 0, 0, 0), (26, .aload_n 1, 1, 0, 0, 0), (27, .invokevirtual 69, 3, 45, 0, 0), (30, .ifCond .ne 6, 3, 0, 0, 0), (33, .bipush (-103), 2, 0, 0, 0), (35, .ireturn, 1, 0, 0, 0), (36, .new 38, 3, 0, 6, 0), (39, .dup, 1, 0, 0, 0), (40, .invokespecial 40, 3, 0, 0, 1), (43, .astore_n 2, 1, 0, 0, 0), (44, .new 73, 3, 6, 8, 0), (47, .dup, 1, 0, 0, 0), (48, .aload_n 0, 1, 0, 0, 0), (49, .getfield 10, 3, 8, 0, 0), (52, .aload_n 2, 1, 0, 0, 0), (53, .invokespecial 75, 3, 53, 2, 0), (56, .invokevirtual 78, 3, 54, 0, 0), (59, .aload_n 0, 1, 0, 0, 0), (60, .new 36, 3, 3, 9, 0), (63, .dup, 1, 0, 0, 0), (64, .aload_n 2, 1, 0, 0, 0), (65, .invokespecial 41, 3, 24, 1, 0), (68, .putfield 44, 3, 8, 5, 0), (71, .aload_n 0, 1, 0, 0, 0), (72, .getfield 19, 3, 8, 1, 0), (75, .invokevirtual 81, 3, 20, 0, 0), (78, .aload_n 0, 1, 0, 0, 0), (79, .getfield 29, 3, 8, 3, 0), (82, .iconst 0, 1, 0, 0, 0), (83, .putfield 84, 3, 7, 3, 0), (86, .aload_n 0, 1, 0, 0, 0), (87, .aconst_null, 1, 0, 0, 0), (88, .putfield 48, 3, 8, 6, 0), (91, .aload_n 0, 1, 0, 0, 0), (92, .getfield 10, 3, 8, 0, 0), (95, .iconst 0, 1, 0, 0, 0), (96, .putfield 55, 3, 4, 1, 0), (99, .aload_n 0, 1, 0, 0, 0), (100, .dup, 1, 0, 0, 0), (101, .getfield 51, 3, 8, 7, 0), (104, .iconst 1, 1, 0, 0, 0), (105, .iadd, 1, 0, 0, 0), (106, .putfield 51, 3, 8, 7, 0), (109, .aload_n 2, 1, 0, 0, 0), (110, .getfield 87, 3, 0, 0, 0), (113, .ireturn, 1, 0, 0, 0)]
def px_t72 : List (Nat × px_K) := [(0, .aload_n 0, 1, 0, 0, 0), (1, .iload_n 1, 1, 0, 0, 0), (2, .invokevirtual 90, 3, 99, 1, 0), (5, .ifCond .eq 12, 3, 0, 0, 0), (8, .iload_n 2, 1, 0, 0, 0), (9, .bipush 10, 2, 0, 0, 0), (11, .invokestatic 94, 3, 102, 2, 0), (14, .ifCond .ne 6, 3, 0, 0, 0), (17, .bipush (-101), 2, 0, 0, 0), (19, .ireturn, 1, 0, 0, 0), (20, .iload_n 3, 1, 0, 0, 0), (21, .bipush 6, 2, 0, 0, 0), (23, .invokestatic 94, 3, 102, 2, 0), (26, .ifCond .ne 6, 3, 0, 0, 0), (29, .bipush (-102), 2, 0, 0, 0), (31, .ireturn, 1, 0, 0, 0), (32, .aload_n 0, 1, 0, 0, 0), (33, .getfield 44, 3, 8, 5, 0), (36, .getfield 98, 3, 3, 0, 0), (39, .iload_n 1, 1, 0, 0, 0), (40, .iload_n 2, 1, 0, 0, 0), (41, .iload_n 3, 1, 0, 0, 0), (42, .invokevirtual 102, 3, 1, 3, 0), (45, .ireturn, 1, 0, 0, 0)]
def px_t73 : List (Nat × px_K) := [(0, .aload_n 0, 1, 0, 0, 0), (1, .iload_n 1, 1, 0, 0, 0), (2, .iload_n 2, 1, 0, 0, 0), (3, .invokevirtual 106, 3, 100, 2, 0), (6, .ifCond .ne 6, 3, 0, 0, 0), (9, .bipush (-101), 2, 0, 0, 0), (11, .ireturn, 1, 0, 0, 0), (12, .iload_n 3, 1, 0, 0, 0), (13, .bipush 7, 2, 0, 0, 0), (15, .invokestatic 94, 3, 102, 2, 0), (18, .ifCond .ne 6, 3, 0, 0, 0), (21, .bipush (-102), 2, 0, 0, 0), (23, .ireturn, 1, 0, 0, 0), (24, .iload_n 3, 1, 0, 0, 0), (25, .ifCond .ne 17, 3, 0, 0, 0), (28, .aload_n 0, 1, 0, 0, 0), (29, .getfield 44, 3, 8, 5, 0), (32, .getfield 109, 3, 3, 1, 0), (35, .iload_n 1, 1, 0, 0, 0), (36, .iload_n 2, 1, 0, 0, 0), (37, .invokestatic 113, 3, 103, 2, 0), (40, .iaload, 1, 0, 0, 0), (41, .ireturn, 1, 0, 0, 0), (42, .iload_n 3, 1, 0, 0, 0), (43, .iconst 4, 1, 0, 0, 0), (44, .if_icmp .gt 17, 3, 0, 0, 0), (47, .aload_n 0, 1, 0, 0, 0), (48, .getfield 44, 3, 8, 5, 0), (51, .getfield 98, 3, 3, 0, 0), (54, .iload_n 1, 1, 0, 0, 0), (55, .iload_n 2, 1, 0, 0, 0), (56, .iload_n 3, 1, 0, 0, 0), (57, .invokevirtual 117, 3, 5, 3, 0), (60, .ireturn, 1, 0, 0, 0), (61, .aload_n 0, 1, 0, 0, 0), (62, .getfield 44, 3, 8, 5, 0), (65, .getfield 98, 3, 3, 0, 0), (68, .iload_n 1, 1, 0, 0, 0), (69, .iload_n 2, 1, 0, 0, 0), (70, .iconst 3, 1, 0, 0, 0), (71, .invokevirtual 117, 3, 5, 3, 0), (74, .istore 4, 2, 0, 0, 0), (76, .aload_n 0, 1, 0, 0, 0), (77, .getfield 29, 3, 8, 3, 0), (80, .iload_n 1, 1, 0, 0, 0), (81, .iload_n 2, 1, 0, 0, 0), (82, .invokestatic 113, 3, 103, 2, 0), (85, .iload 4, 2, 0, 0, 0), (87, .invokevirtual 120, 3, 64, 2, 0), (90, .istore 5, 2, 0, 0, 0), (92, .iload_n 3, 1, 0, 0, 0), (93, .iconst 5, 1, 0, 0, 0), (94, .if_icmp .ne 8, 3, 0, 0, 0), (97, .iload 5, 2, 0, 0, 0), (99, .goto 10, 3, 0, 0, 0), (102, .iload 5, 2, 0, 0, 0), (104, .iload 4, 2, 0, 0, 0), (106, .invokestatic 123, 3, 107, 2, 0), (109, .ireturn, 1, 0, 0, 0)]
def px_t74 : List (Nat × px_K) := [(0, .aload_n 0, 1, 0, 0, 0), (1, .iload_n 1, 1, 0, 0, 0), (2, .iload_n 2, 1, 0, 0, 0), (3, .invokevirtual 106, 3, 100, 2, 0), (6, .ifCond .ne 6, 3, 0, 0, 0), (9, .bipush (-101), 2, 0, 0, 0), (11, .ireturn, 1, 0, 0, 0), (12, .iload_n 3, 1, 0, 0, 0), (13, .iconst 5, 1, 0, 0, 0), (14, .invokestatic 94, 3, 102, 2, 0), (17, .ifCond .ne 6, 3, 0, 0, 0), (20, .bipush (-102), 2, 0, 0, 0), (22, .ireturn, 1, 0, 0, 0), (23, .aload_n 0, 1, 0, 0, 0), (24, .getfield 44, 3, 8, 5, 0), (27, .getfield 109, 3, 3, 1, 0), (30, .iload_n 1, 1, 0, 0, 0), (31, .iload_n 2, 1, 0, 0, 0), (32, .invokestatic 113, 3, 103, 2, 0), (35, .iaload, 1, 0, 0, 0), (36, .iload_n 3, 1, 0, 0, 0), (37, .invokestatic 126, 3, 105, 2, 0), (40, .ifCond .eq 7, 3, 0, 0, 0), (43, .iload_n 2, 1, 0, 0, 0), (44, .goto 4, 3, 0, 0, 0), (47, .iconst (-1), 1, 0, 0, 0), (48, .ireturn, 1, 0, 0, 0)]
def px_t75 : List (Nat × px_K) := [(0, .iload_n 1, 1, 0, 0, 0), (1, .aload_n 0, 1, 0, 0, 0), (2, .getfield 44, 3, 8, 5, 0), (5, .getfield 129, 3, 3, 7, 0), (8, .invokestatic 94, 3, 102, 2, 0), (11, .ifCond .ne 6, 3, 0, 0, 0), (14, .bipush (-101), 2, 0, 0, 0), (16, .ireturn, 1, 0, 0, 0), (17, .iload_n 2, 1, 0, 0, 0), (18, .bipush 12, 2, 0, 0, 0), (20, .invokestatic 94, 3, 102, 2, 0), (23, .ifCond .ne 6, 3, 0, 0, 0), (26, .bipush (-102), 2, 0, 0, 0), (28, .ireturn, 1, 0, 0, 0), (29, .aload_n 0, 1, 0, 0, 0), (30, .getfield 44, 3, 8, 5, 0), (33, .iload_n 1, 1, 0, 0, 0), (34, .invokevirtual 132, 3, 26, 1, 0), (37, .istore_n 3, 1, 0, 0, 0), (38, .iload_n 2, 1, 0, 0, 0), (39, .ifCond .ne 13, 3, 0, 0, 0), (42, .aload_n 0, 1, 0, 0, 0), (43, .getfield 44, 3, 8, 5, 0), (46, .getfield 136, 3, 3, 3, 0), (49, .iload_n 3, 1, 0, 0, 0), (50, .iaload, 1, 0, 0, 0), (51, .ireturn, 1, 0, 0, 0), (52, .iload_n 2, 1, 0, 0, 0), (53, .iconst 1, 1, 0, 0, 0), (54, .if_icmp .ne 13, 3, 0, 0, 0), (57, .aload_n 0, 1, 0, 0, 0), (58, .getfield 44, 3, 8, 5, 0), (61, .getfield 138, 3, 3, 4, 0), (64, .iload_n 3, 1, 0, 0, 0), (65, .iaload, 1, 0, 0, 0), (66, .ireturn, 1, 0, 0, 0), (67, .iload_n 2, 1, 0, 0, 0), (68, .bipush 8, 2, 0, 0, 0), (70, .if_icmp .ge 20, 3, 0, 0, 0), (73, .aload_n 0, 1, 0, 0, 0), (74, .getfield 44, 3, 8, 5, 0), (77, .getfield 141, 3, 3, 5, 0), (80, .iload_n 3, 1, 0, 0, 0), (81, .bipush 6, 2, 0, 0, 0), (83, .imul, 1, 0, 0, 0), (84, .iload_n 2, 1, 0, 0, 0), (85, .iadd, 1, 0, 0, 0), (86, .iconst 2, 1, 0, 0, 0), (87, .isub, 1, 0, 0, 0), (88, .iaload, 1, 0, 0, 0), (89, .ireturn, 1, 0, 0, 0), (90, .aload_n 0, 1, 0, 0, 0), (91, .getfield 44, 3, 8, 5, 0), (94, .iload_n 3, 1, 0, 0, 0), (95, .iload_n 2, 1, 0, 0, 0), (96, .iconst 2, 1, 0, 0, 0), (97, .isub, 1, 0, 0, 0), (98, .bipush 6, 2, 0, 0, 0), (100, .isub, 1, 0, 0, 0), (101, .invokevirtual 144, 3, 33, 2, 0), (104, .ireturn, 1, 0, 0, 0)]
def px_t76 : List (Nat × px_K) := [(0, .iload_n 1, 1, 0, 0, 0), (1, .iconst 4, 1, 0, 0, 0), (2, .invokestatic 94, 3, 102, 2, 0), (5, .ifCond .ne 6, 3, 0, 0, 0), (8, .bipush (-101), 2, 0, 0, 0), (10, .ireturn, 1, 0, 0, 0), (11, .aload_n 0, 1, 0, 0, 0), (12, .getfield 44, 3, 8, 5, 0), (15, .getfield 147, 3, 3, 2, 0), (18, .iload_n 1, 1, 0, 0, 0), (19, .iaload, 1, 0, 0, 0), (20, .ireturn, 1, 0, 0, 0)]
def px_t77 : List (Nat × px_K) := [(0, .aload_n 0, 1, 0, 0, 0), (1, .iload_n 1, 1, 0, 0, 0), (2, .invokevirtual 90, 3, 99, 1, 0), (5, .ifCond .ne 6, 3, 0, 0, 0), (8, .bipush (-101), 2, 0, 0, 0), (10, .ireturn, 1, 0, 0, 0), (11, .aload_n 0, 1, 0, 0, 0), (12, .getfield 44, 3, 8, 5, 0), (15, .getfield 129, 3, 3, 7, 0), (18, .bipush 8, 2, 0, 0, 0), (20, .if_icmp .lt 6, 3, 0, 0, 0), (23, .bipush (-104), 2, 0, 0, 0), (25, .ireturn, 1, 0, 0, 0), (26, .aload_n 0, 1, 0, 0, 0), (27, .invokevirtual 150, 3, 101, 0, 0), (30, .aload_n 0, 1, 0, 0, 0), (31, .getfield 44, 3, 8, 5, 0), (34, .iload_n 1, 1, 0, 0, 0), (35, .invokevirtual 153, 3, 28, 1, 0), (38, .aload_n 0, 1, 0, 0, 0), (39, .getfield 44, 3, 8, 5, 0), (42, .getfield 129, 3, 3, 7, 0), (45, .ireturn, 1, 0, 0, 0)]
def px_t78 : List (Nat × px_K) := [(0, .iload_n 1, 1, 0, 0, 0), (1, .iconst 1, 1, 0, 0, 0), (2, .if_icmp .lt 9, 3, 0, 0, 0), (5, .iload_n 1, 1, 0, 0, 0), (6, .bipush 10, 2, 0, 0, 0), (8, .if_icmp .lt 6, 3, 0, 0, 0), (11, .bipush (-102), 2, 0, 0, 0), (13, .ireturn, 1, 0, 0, 0), (14, .aload_n 0, 1, 0, 0, 0), (15, .getfield 44, 3, 8, 5, 0), (18, .getfield 129, 3, 3, 7, 0), (21, .iconst 1, 1, 0, 0, 0), (22, .if_icmp .lt 17, 3, 0, 0, 0), (25, .aload_n 0, 1, 0, 0, 0), (26, .getfield 44, 3, 8, 5, 0), (29, .invokevirtual 156, 3, 27, 0, 0), (32, .iload_n 1, 1, 0, 0, 0), (33, .iadd, 1, 0, 0, 0), (34, .bipush 10, 2, 0, 0, 0), (36, .if_icmp .lt 6, 3, 0, 0, 0), (39, .bipush (-103), 2, 0, 0, 0), (41, .ireturn, 1, 0, 0, 0), (42, .aload_n 0, 1, 0, 0, 0), (43, .invokevirtual 150, 3, 101, 0, 0), (46, .iconst 0, 1, 0, 0, 0), (47, .istore_n 2, 1, 0, 0, 0), (48, .iload_n 2, 1, 0, 0, 0), (49, .iload_n 1, 1, 0, 0, 0), (50, .if_icmp .ge 16, 3, 0, 0, 0), (53, .aload_n 0, 1, 0, 0, 0), (54, .getfield 44, 3, 8, 5, 0), (57, .invokevirtual 160, 3, 29, 0, 0), (60, .iinc 2 1, 3, 0, 0, 0), (63, .goto (-15), 3, 0, 0, 0), (66, .aload_n 0, 1, 0, 0, 0), (67, .getfield 44, 3, 8, 5, 0), (70, .invokevirtual 156, 3, 27, 0, 0), (73, .ireturn, 1, 0, 0, 0)]
def px_t79 : List (Nat × px_K) := [(0, .iload_n 1, 1, 0, 0, 0), (1, .iconst 4, 1, 0, 0, 0), (2, .invokestatic 94, 3, 102, 2, 0), (5, .ifCond .ne 6, 3, 0, 0, 0), (8, .bipush (-101), 2, 0, 0, 0), (10, .ireturn, 1, 0, 0, 0), (11, .iload_n 2, 1, 0, 0, 0), (12, .sipush 1000, 3, 0, 0, 0), (15, .invokestatic 94, 3, 102, 2, 0), (18, .ifCond .ne 6, 3, 0, 0, 0), (21, .bipush (-102), 2, 0, 0, 0), (23, .ireturn, 1, 0, 0, 0), (24, .aload_n 0, 1, 0, 0, 0), (25, .invokevirtual 163, 3, 98, 0, 0), (28, .ifCond .ne 6, 3, 0, 0, 0), (31, .bipush (-103), 2, 0, 0, 0), (33, .ireturn, 1, 0, 0, 0), (34, .aload_n 0, 1, 0, 0, 0), (35, .invokevirtual 150, 3, 101, 0, 0), (38, .aload_n 0, 1, 0, 0, 0), (39, .getfield 44, 3, 8, 5, 0), (42, .getfield 147, 3, 3, 2, 0), (45, .iload_n 1, 1, 0, 0, 0), (46, .iaload, 1, 0, 0, 0), (47, .istore_n 3, 1, 0, 0, 0), (48, .aload_n 0, 1, 0, 0, 0), (49, .getfield 44, 3, 8, 5, 0), (52, .getfield 147, 3, 3, 2, 0), (55, .iload_n 1, 1, 0, 0, 0), (56, .iload_n 2, 1, 0, 0, 0), (57, .iastore, 1, 0, 0, 0), (58, .iload_n 3, 1, 0, 0, 0), (59, .ireturn, 1, 0, 0, 0)]
def px_t80 : List (Nat × px_K) := [(0, .aload_n 0, 1, 0, 0, 0), (1, .getfield 44, 3, 8, 5, 0), (4, .getfield 129, 3, 3, 7, 0), (7, .iconst 1, 1, 0, 0, 0), (8, .if_icmp .ge 6, 3, 0, 0, 0), (11, .bipush (-103), 2, 0, 0, 0), (13, .ireturn, 1, 0, 0, 0), (14, .aload_n 0, 1, 0, 0, 0), (15, .invokevirtual 150, 3, 101, 0, 0), (18, .aload_n 0, 1, 0, 0, 0), (19, .getfield 44, 3, 8, 5, 0), (22, .invokevirtual 166, 3, 31, 0, 0), (25, .aload_n 0, 1, 0, 0, 0), (26, .getfield 44, 3, 8, 5, 0), (29, .getfield 129, 3, 3, 7, 0), (32, .ireturn, 1, 0, 0, 0)]
def px_t81 : List (Nat × px_K) := [(0, .iload_n 1, 1, 0, 0, 0), (1, .iconst 5, 1, 0, 0, 0), (2, .invokestatic 94, 3, 102, 2, 0), (5, .ifCond .ne 6, 3, 0, 0, 0), (8, .bipush (-102), 2, 0, 0, 0), (10, .ireturn, 1, 0, 0, 0), (11, .aload_n 0, 1, 0, 0, 0), (12, .invokevirtual 163, 3, 98, 0, 0), (15, .ifCond .ne 6, 3, 0, 0, 0), (18, .bipush (-103), 2, 0, 0, 0), (20, .ireturn, 1, 0, 0, 0), (21, .aload_n 0, 1, 0, 0, 0), (22, .getfield 44, 3, 8, 5, 0), (25, .iload_n 1, 1, 0, 0, 0), (26, .invokevirtual 169, 3, 34, 1, 0), (29, .istore_n 2, 1, 0, 0, 0), (30, .iload_n 2, 1, 0, 0, 0), (31, .iconst (-1), 1, 0, 0, 0), (32, .if_icmp .ne 5, 3, 0, 0, 0), (35, .iconst (-1), 1, 0, 0, 0), (36, .ireturn, 1, 0, 0, 0), (37, .aload_n 0, 1, 0, 0, 0), (38, .invokevirtual 150, 3, 101, 0, 0), (41, .aload_n 0, 1, 0, 0, 0), (42, .getfield 44, 3, 8, 5, 0), (45, .iload_n 2, 1, 0, 0, 0), (46, .iload_n 1, 1, 0, 0, 0), (47, .invokevirtual 172, 3, 37, 2, 0), (50, .iload_n 2, 1, 0, 0, 0), (51, .iconst 3, 1, 0, 0, 0), (52, .idiv, 1, 0, 0, 0), (53, .ireturn, 1, 0, 0, 0)]
def px_t82 : List (Nat × px_K) := [(0, .aload_n 0, 1, 0, 0, 0), (1, .iload_n 1, 1, 0, 0, 0), (2, .iload_n 2, 1, 0, 0, 0), (3, .invokevirtual 106, 3, 100, 2, 0), (6, .ifCond .ne 6, 3, 0, 0, 0), (9, .bipush (-101), 2, 0, 0, 0), (11, .ireturn, 1, 0, 0, 0), (12, .iload_n 3, 1, 0, 0, 0), (13, .iconst 5, 1, 0, 0, 0), (14, .invokestatic 94, 3, 102, 2, 0), (17, .ifCond .ne 6, 3, 0, 0, 0), (20, .bipush (-102), 2, 0, 0, 0), (22, .ireturn, 1, 0, 0, 0), (23, .aload_n 0, 1, 0, 0, 0), (24, .invokevirtual 150, 3, 101, 0, 0), (27, .aload_n 0, 1, 0, 0, 0), (28, .getfield 44, 3, 8, 5, 0), (31, .getfield 109, 3, 3, 1, 0), (34, .iload_n 1, 1, 0, 0, 0), (35, .iload_n 2, 1, 0, 0, 0), (36, .invokestatic 113, 3, 103, 2, 0), (39, .iaload, 1, 0, 0, 0), (40, .istore 4, 2, 0, 0, 0), (42, .aload_n 0, 1, 0, 0, 0), (43, .getfield 44, 3, 8, 5, 0), (46, .getfield 109, 3, 3, 1, 0), (49, .iload_n 1, 1, 0, 0, 0), (50, .iload_n 2, 1, 0, 0, 0), (51, .invokestatic 113, 3, 103, 2, 0), (54, .iload_n 3, 1, 0, 0, 0), (55, .iastore, 1, 0, 0, 0), (56, .iload 4, 2, 0, 0, 0), (58, .ireturn, 1, 0, 0, 0)]
def px_t83 : List (Nat × px_K) := [(0, .aload_n 0, 1, 0, 0, 0), (1, .getfield 19, 3, 8, 1, 0), (4, .getfield 176, 3, 2, 2, 0), (7, .iconst 1, 1, 0, 0, 0), (8, .if_icmp .ge 6, 3, 0, 0, 0), (11, .bipush (-103), 2, 0, 0, 0), (13, .ireturn, 1, 0, 0, 0), (14, .aload_n 0, 1, 0, 0, 0), (15, .aload_n 0, 1, 0, 0, 0), (16, .getfield 19, 3, 8, 1, 0), (19, .aload_n 0, 1, 0, 0, 0), (20, .getfield 44, 3, 8, 5, 0), (23, .invokevirtual 177, 3, 22, 1, 0), (26, .putfield 44, 3, 8, 5, 0), (29, .aload_n 0, 1, 0, 0, 0), (30, .getfield 19, 3, 8, 1, 0), (33, .getfield 176, 3, 2, 2, 0), (36, .ireturn, 1, 0, 0, 0)]
def px_t84 : List (Nat × px_K) := [(0, .iload_n 1, 1, 0, 0, 0), (1, .iconst 5, 1, 0, 0, 0), (2, .invokestatic 94, 3, 102, 2, 0), (5, .ifCond .eq 11, 3, 0, 0, 0), (8, .iload_n 2, 1, 0, 0, 0), (9, .iconst 3, 1, 0, 0, 0), (10, .invokestatic 94, 3, 102, 2, 0), (13, .ifCond .ne 6, 3, 0, 0, 0), (16, .bipush (-102), 2, 0, 0, 0), (18, .ireturn, 1, 0, 0, 0), (19, .aload_n 0, 1, 0, 0, 0), (20, .invokevirtual 163, 3, 98, 0, 0), (23, .ifCond .ne 6, 3, 0, 0, 0), (26, .bipush (-103), 2, 0, 0, 0), (28, .ireturn, 1, 0, 0, 0), (29, .aload_n 0, 1, 0, 0, 0), (30, .getfield 44, 3, 8, 5, 0), (33, .iload_n 1, 1, 0, 0, 0), (34, .invokevirtual 169, 3, 34, 1, 0), (37, .istore_n 3, 1, 0, 0, 0), (38, .iload_n 3, 1, 0, 0, 0), (39, .iconst (-1), 1, 0, 0, 0), (40, .if_icmp .ne 5, 3, 0, 0, 0), (43, .iconst (-1), 1, 0, 0, 0), (44, .ireturn, 1, 0, 0, 0), (45, .iload_n 2, 1, 0, 0, 0), (46, .iconst 2, 1, 0, 0, 0), (47, .if_icmp .ne 13, 3, 0, 0, 0), (50, .aload_n 0, 1, 0, 0, 0), (51, .getfield 44, 3, 8, 5, 0), (54, .iload_n 3, 1, 0, 0, 0), (55, .iload_n 1, 1, 0, 0, 0), (56, .invokevirtual 181, 3, 36, 2, 0), (59, .ireturn, 1, 0, 0, 0), (60, .iload_n 2, 1, 0, 0, 0), (61, .ifCond .ne 9, 3, 0, 0, 0), (64, .iload_n 3, 1, 0, 0, 0), (65, .iconst 3, 1, 0, 0, 0), (66, .idiv, 1, 0, 0, 0), (67, .goto 6, 3, 0, 0, 0), (70, .iload_n 3, 1, 0, 0, 0), (71, .iconst 3, 1, 0, 0, 0), (72, .irem, 1, 0, 0, 0), (73, .ireturn, 1, 0, 0, 0)]
def px_t85 : List (Nat × px_K) := [(0, .aload_n 0, 1, 0, 0, 0), (1, .invokevirtual 163, 3, 98, 0, 0), (4, .ifCond .ne 6, 3, 0, 0, 0), (7, .bipush (-103), 2, 0, 0, 0), (9, .ireturn, 1, 0, 0, 0), (10, .iconst 0, 1, 0, 0, 0), (11, .istore_n 1, 1, 0, 0, 0), (12, .iconst 0, 1, 0, 0, 0), (13, .istore_n 2, 1, 0, 0, 0), (14, .iload_n 2, 1, 0, 0, 0), (15, .iconst 5, 1, 0, 0, 0), (16, .if_icmp .ge 27, 3, 0, 0, 0), (19, .aload_n 0, 1, 0, 0, 0), (20, .getfield 44, 3, 8, 5, 0), (23, .iload_n 2, 1, 0, 0, 0), (24, .invokevirtual 169, 3, 34, 1, 0), (27, .iconst (-1), 1, 0, 0, 0), (28, .if_icmp .ne 9, 3, 0, 0, 0), (31, .iload_n 1, 1, 0, 0, 0), (32, .iconst 1, 1, 0, 0, 0), (33, .iload_n 2, 1, 0, 0, 0), (34, .ishl, 1, 0, 0, 0), (35, .ior, 1, 0, 0, 0), (36, .istore_n 1, 1, 0, 0, 0), (37, .iinc 2 1, 3, 0, 0, 0), (40, .goto (-26), 3, 0, 0, 0), (43, .iload_n 1, 1, 0, 0, 0), (44, .ireturn, 1, 0, 0, 0)]
def px_t86 : List (Nat × px_K) := [(0, .iload_n 1, 1, 0, 0, 0), (1, .iconst (-1), 1, 0, 0, 0), (2, .if_icmp .ne 11, 3, 0, 0, 0), (5, .aload_n 0, 1, 0, 0, 0), (6, .getfield 44, 3, 8, 5, 0), (9, .getfield 184, 3, 3, 8, 0), (12, .ireturn, 1, 0, 0, 0), (13, .iload_n 1, 1, 0, 0, 0), (14, .aload_n 0, 1, 0, 0, 0), (15, .getfield 44, 3, 8, 5, 0), (18, .getfield 184, 3, 3, 8, 0), (21, .invokestatic 94, 3, 102, 2, 0), (24, .ifCond .ne 6, 3, 0, 0, 0), (27, .bipush (-101), 2, 0, 0, 0), (29, .ireturn, 1, 0, 0, 0), (30, .aload_n 0, 1, 0, 0, 0), (31, .getfield 44, 3, 8, 5, 0), (34, .getfield 187, 3, 3, 6, 0), (37, .iload_n 1, 1, 0, 0, 0), (38, .iaload, 1, 0, 0, 0), (39, .ireturn, 1, 0, 0, 0)]
def px_t87 : List (Nat × px_K) := [(0, .aload_n 0, 1, 0, 0, 0), (1, .iload_n 1, 1, 0, 0, 0), (2, .invokevirtual 90, 3, 99, 1, 0), (5, .ifCond .eq 11, 3, 0, 0, 0), (8, .aload_n 0, 1, 0, 0, 0), (9, .iload_n 2, 1, 0, 0, 0), (10, .invokevirtual 90, 3, 99, 1, 0), (13, .ifCond .ne 6, 3, 0, 0, 0), (16, .bipush (-101), 2, 0, 0, 0), (18, .ireturn, 1, 0, 0, 0), (19, .iconst 0, 1, 0, 0, 0), (20, .istore_n 3, 1, 0, 0, 0), (21, .iload_n 3, 1, 0, 0, 0), (22, .bipush 10, 2, 0, 0, 0), (24, .if_icmp .ge 57, 3, 0, 0, 0), (27, .iconst 0, 1, 0, 0, 0), (28, .istore 4, 2, 0, 0, 0), (30, .iload 4, 2, 0, 0, 0), (32, .iconst 4, 1, 0, 0, 0), (33, .if_icmp .ge 42, 3, 0, 0, 0), (36, .aload_n 0, 1, 0, 0, 0), (37, .getfield 44, 3, 8, 5, 0), (40, .getfield 98, 3, 3, 0, 0), (43, .iload_n 1, 1, 0, 0, 0), (44, .iload_n 3, 1, 0, 0, 0), (45, .iload 4, 2, 0, 0, 0), (47, .invokevirtual 102, 3, 1, 3, 0), (50, .aload_n 0, 1, 0, 0, 0), (51, .getfield 44, 3, 8, 5, 0), (54, .getfield 98, 3, 3, 0, 0), (57, .iload_n 2, 1, 0, 0, 0), (58, .iload_n 3, 1, 0, 0, 0), (59, .iload 4, 2, 0, 0, 0), (61, .invokevirtual 102, 3, 1, 3, 0), (64, .if_icmp .eq 5, 3, 0, 0, 0), (67, .iconst 0, 1, 0, 0, 0), (68, .ireturn, 1, 0, 0, 0), (69, .iinc 4 1, 3, 0, 0, 0), (72, .goto (-42), 3, 0, 0, 0), (75, .iinc 3 1, 3, 0, 0, 0), (78, .goto (-57), 3, 0, 0, 0), (81, .iconst 1, 1, 0, 0, 0), (82, .ireturn, 1, 0, 0, 0)]
def px_t88 : List (Nat × px_K) := [(0, .aload_n 0, 1, 0, 0, 0), (1, .iload_n 1, 1, 0, 0, 0), (2, .iload_n 2, 1, 0, 0, 0), (3, .invokevirtual 106, 3, 100, 2, 0), (6, .ifCond .ne 6, 3, 0, 0, 0), (9, .bipush (-101), 2, 0, 0, 0), (11, .ireturn, 1, 0, 0, 0), (12, .iload_n 3, 1, 0, 0, 0), (13, .iconst 5, 1, 0, 0, 0), (14, .invokestatic 94, 3, 102, 2, 0), (17, .ifCond .eq 12, 3, 0, 0, 0), (20, .iload 4, 2, 0, 0, 0), (22, .iconst 3, 1, 0, 0, 0), (23, .invokestatic 94, 3, 102, 2, 0), (26, .ifCond .ne 6, 3, 0, 0, 0), (29, .bipush (-102), 2, 0, 0, 0), (31, .ireturn, 1, 0, 0, 0), (32, .aload_n 0, 1, 0, 0, 0), (33, .getfield 29, 3, 8, 3, 0), (36, .getfield 84, 3, 7, 3, 0), (39, .bipush 6, 2, 0, 0, 0), (41, .if_icmp .lt 6, 3, 0, 0, 0), (44, .bipush (-104), 2, 0, 0, 0), (46, .ireturn, 1, 0, 0, 0), (47, .aload_n 0, 1, 0, 0, 0), (48, .getfield 29, 3, 8, 3, 0), (51, .iload_n 1, 1, 0, 0, 0), (52, .iload_n 2, 1, 0, 0, 0), (53, .invokestatic 113, 3, 103, 2, 0), (56, .iload_n 3, 1, 0, 0, 0), (57, .iload 4, 2, 0, 0, 0), (59, .invokevirtual 190, 3, 63, 3, 0), (62, .aload_n 0, 1, 0, 0, 0), (63, .getfield 29, 3, 8, 3, 0), (66, .getfield 84, 3, 7, 3, 0), (69, .ireturn, 1, 0, 0, 0)]
def px_t89 : List (Nat × px_K) := [(0, .aload_n 0, 1, 0, 0, 0), (1, .getfield 29, 3, 8, 3, 0), (4, .getfield 84, 3, 7, 3, 0), (7, .istore_n 1, 1, 0, 0, 0), (8, .aload_n 0, 1, 0, 0, 0), (9, .getfield 29, 3, 8, 3, 0), (12, .iconst 0, 1, 0, 0, 0), (13, .putfield 84, 3, 7, 3, 0), (16, .iload_n 1, 1, 0, 0, 0), (17, .ireturn, 1, 0, 0, 0)]
def px_t90 : List (Nat × px_K) := [(0, .iload_n 1, 1, 0, 0, 0), (1, .iconst 1, 1, 0, 0, 0), (2, .if_icmp .lt 21, 3, 0, 0, 0), (5, .iload_n 1, 1, 0, 0, 0), (6, .bipush 99, 2, 0, 0, 0), (8, .if_icmp .gt 15, 3, 0, 0, 0), (11, .iload_n 2, 1, 0, 0, 0), (12, .ifCond .lt 11, 3, 0, 0, 0), (15, .iload_n 3, 1, 0, 0, 0), (16, .iconst 3, 1, 0, 0, 0), (17, .invokestatic 94, 3, 102, 2, 0), (20, .ifCond .ne 6, 3, 0, 0, 0), (23, .bipush (-102), 2, 0, 0, 0), (25, .ireturn, 1, 0, 0, 0), (26, .aload_n 0, 1, 0, 0, 0), (27, .invokevirtual 163, 3, 98, 0, 0), (30, .ifCond .ne 6, 3, 0, 0, 0), (33, .bipush (-103), 2, 0, 0, 0), (35, .ireturn, 1, 0, 0, 0), (36, .new 36, 3, 3, 9, 0), (39, .dup, 1, 0, 0, 0), (40, .aload_n 0, 1, 0, 0, 0), (41, .getfield 44, 3, 8, 5, 0), (44, .invokespecial 194, 3, 25, 1, 0), (47, .astore 4, 2, 0, 0, 0), (49, .new 197, 3, 1, 1, 0), (52, .dup, 1, 0, 0, 0), (53, .iload_n 2, 1, 0, 0, 0), (54, .invokespecial 199, 3, 15, 1, 0), (57, .astore 5, 2, 0, 0, 0), (59, .iconst 0, 1, 0, 0, 0), (60, .istore 6, 2, 0, 0, 0), (62, .iconst 0, 1, 0, 0, 0), (63, .istore 7, 2, 0, 0, 0), (65, .iload 7, 2, 0, 0, 0), (67, .iload_n 1, 1, 0, 0, 0), (68, .if_icmp .ge 22, 3, 0, 0, 0), (71, .aload 5, 2, 0, 0, 0), (73, .aload 4, 2, 0, 0, 0), (75, .invokevirtual 201, 3, 17, 1, 0), (78, .ifCond .eq 6, 3, 0, 0, 0), (81, .iinc 6 1, 3, 0, 0, 0), (84, .iinc 7 1, 3, 0, 0, 0), (87, .goto (-22), 3, 0, 0, 0), (90, .iload_n 3, 1, 0, 0, 0), (91, .ifCond .ne 6, 3, 0, 0, 0), (94, .iload 6, 2, 0, 0, 0), (96, .ireturn, 1, 0, 0, 0), (97, .iload_n 3, 1, 0, 0, 0), (98, .iconst 1, 1, 0, 0, 0), (99, .if_icmp .ne 11, 3, 0, 0, 0), (102, .aload 4, 2, 0, 0, 0), (104, .getfield 129, 3, 3, 7, 0), (107, .goto 9, 3, 0, 0, 0), (110, .aload 5, 2, 0, 0, 0), (112, .getfield 205, 3, 1, 0, 0), (115, .l2i, 1, 0, 0, 0), (116, .ireturn, 1, 0, 0, 0)]
def px_t91 : List (Nat × px_K) := [(0, .aload_n 0, 1, 0, 0, 0), (1, .invokevirtual 163, 3, 98, 0, 0), (4, .ifCond .ne 6, 3, 0, 0, 0), (7, .bipush (-103), 2, 0, 0, 0), (9, .ireturn, 1, 0, 0, 0), (10, .aload_n 0, 1, 0, 0, 0), (11, .aload_n 0, 1, 0, 0, 0), (12, .getfield 44, 3, 8, 5, 0), (15, .putfield 48, 3, 8, 6, 0), (18, .aload_n 0, 1, 0, 0, 0), (19, .getfield 23, 3, 8, 2, 0), (22, .aload_n 0, 1, 0, 0, 0), (23, .getfield 19, 3, 8, 1, 0), (26, .invokevirtual 209, 3, 23, 1, 0), (29, .aload_n 0, 1, 0, 0, 0), (30, .getfield 33, 3, 8, 4, 0), (33, .aload_n 0, 1, 0, 0, 0), (34, .getfield 29, 3, 8, 3, 0), (37, .invokevirtual 213, 3, 66, 1, 0), (40, .aload_n 0, 1, 0, 0, 0), (41, .getfield 44, 3, 8, 5, 0), (44, .getfield 129, 3, 3, 7, 0), (47, .ireturn, 1, 0, 0, 0)]
def px_t92 : List (Nat × px_K) := [(0, .aload_n 0, 1, 0, 0, 0), (1, .getfield 48, 3, 8, 6, 0), (4, .ifnonnull 6, 3, 0, 0, 0), (7, .bipush (-103), 2, 0, 0, 0), (9, .ireturn, 1, 0, 0, 0), (10, .aload_n 0, 1, 0, 0, 0), (11, .aload_n 0, 1, 0, 0, 0), (12, .getfield 48, 3, 8, 6, 0), (15, .putfield 44, 3, 8, 5, 0), (18, .aload_n 0, 1, 0, 0, 0), (19, .getfield 19, 3, 8, 1, 0), (22, .aload_n 0, 1, 0, 0, 0), (23, .getfield 23, 3, 8, 2, 0), (26, .invokevirtual 209, 3, 23, 1, 0), (29, .aload_n 0, 1, 0, 0, 0), (30, .getfield 29, 3, 8, 3, 0), (33, .aload_n 0, 1, 0, 0, 0), (34, .getfield 33, 3, 8, 4, 0), (37, .invokevirtual 213, 3, 66, 1, 0), (40, .aload_n 0, 1, 0, 0, 0), (41, .getfield 44, 3, 8, 5, 0), (44, .getfield 129, 3, 3, 7, 0), (47, .ireturn, 1, 0, 0, 0)]
def px_t93 : List (Nat × px_K) := [(0, .iload_n 1, 1, 0, 0, 0), (1, .bipush 8, 2, 0, 0, 0), (3, .invokestatic 94, 3, 102, 2, 0), (6, .ifCond .ne 6, 3, 0, 0, 0), (9, .bipush (-102), 2, 0, 0, 0), (11, .ireturn, 1, 0, 0, 0), (12, .iload_n 1, 1, 0, 0, 0), (13, .tableswitch 108 0 6 #[43, 54, 65, 73, 81, 92, 100], 43, 0, 0, 0), (56, .aload_n 0, 1, 0, 0, 0), (57, .getfield 44, 3, 8, 5, 0), (60, .getfield 98, 3, 3, 0, 0), (63, .getfield 87, 3, 0, 0, 0), (66, .ireturn, 1, 0, 0, 0), (67, .aload_n 0, 1, 0, 0, 0), (68, .getfield 44, 3, 8, 5, 0), (71, .getfield 98, 3, 3, 0, 0), (74, .invokevirtual 216, 3, 12, 0, 0), (77, .ireturn, 1, 0, 0, 0), (78, .aload_n 0, 1, 0, 0, 0), (79, .getfield 44, 3, 8, 5, 0), (82, .getfield 129, 3, 3, 7, 0), (85, .ireturn, 1, 0, 0, 0), (86, .aload_n 0, 1, 0, 0, 0), (87, .getfield 19, 3, 8, 1, 0), (90, .getfield 176, 3, 2, 2, 0), (93, .ireturn, 1, 0, 0, 0), (94, .aload_n 0, 1, 0, 0, 0), (95, .getfield 44, 3, 8, 5, 0), (98, .getfield 98, 3, 3, 0, 0), (101, .invokevirtual 219, 3, 13, 0, 0), (104, .ireturn, 1, 0, 0, 0), (105, .aload_n 0, 1, 0, 0, 0), (106, .getfield 29, 3, 8, 3, 0), (109, .getfield 84, 3, 7, 3, 0), (112, .ireturn, 1, 0, 0, 0), (113, .aload_n 0, 1, 0, 0, 0), (114, .getfield 10, 3, 8, 0, 0), (117, .getfield 55, 3, 4, 1, 0), (120, .ireturn, 1, 0, 0, 0), (121, .aload_n 0, 1, 0, 0, 0), (122, .getfield 51, 3, 8, 7, 0), (125, .ireturn, 1, 0, 0, 0)]
def px_t94 : List (Nat × px_K) := [(0, .ldc2_w 222, 3, 0, 0, 1399), (3, .lstore_n 1, 1, 0, 0, 0), (4, .iconst 0, 1, 0, 0, 0), (5, .istore_n 3, 1, 0, 0, 0), (6, .iload_n 3, 1, 0, 0, 0), (7, .aload_n 0, 1, 0, 0, 0), (8, .getfield 44, 3, 8, 5, 0), (11, .getfield 98, 3, 3, 0, 0), (14, .getfield 87, 3, 0, 0, 0), (17, .if_icmp .ge 16, 3, 0, 0, 0), (20, .aload_n 0, 1, 0, 0, 0), (21, .lload_n 1, 1, 0, 0, 0), (22, .iload_n 3, 1, 0, 0, 0), (23, .invokevirtual 224, 3, 95, 2, 0), (26, .lstore_n 1, 1, 0, 0, 0), (27, .iinc 3 1, 3, 0, 0, 0), (30, .goto (-24), 3, 0, 0, 0), (33, .iconst 0, 1, 0, 0, 0), (34, .istore_n 3, 1, 0, 0, 0), (35, .iload_n 3, 1, 0, 0, 0), (36, .aload_n 0, 1, 0, 0, 0), (37, .getfield 44, 3, 8, 5, 0), (40, .getfield 129, 3, 3, 7, 0), (43, .if_icmp .ge 38, 3, 0, 0, 0), (46, .iconst 0, 1, 0, 0, 0), (47, .istore 4, 2, 0, 0, 0), (49, .iload 4, 2, 0, 0, 0), (51, .bipush 12, 2, 0, 0, 0), (53, .if_icmp .ge 22, 3, 0, 0, 0), (56, .lload_n 1, 1, 0, 0, 0), (57, .aload_n 0, 1, 0, 0, 0), (58, .iload_n 3, 1, 0, 0, 0), (59, .iload 4, 2, 0, 0, 0), (61, .invokevirtual 228, 3, 75, 2, 0), (64, .i2l, 1, 0, 0, 0), (65, .invokestatic 231, 3, 97, 2, 0), (68, .lstore_n 1, 1, 0, 0, 0), (69, .iinc 4 1, 3, 0, 0, 0), (72, .goto (-23), 3, 0, 0, 0), (75, .iinc 3 1, 3, 0, 0, 0), (78, .goto (-43), 3, 0, 0, 0), (81, .iconst 0, 1, 0, 0, 0), (82, .istore_n 3, 1, 0, 0, 0), (83, .iload_n 3, 1, 0, 0, 0), (84, .iconst 4, 1, 0, 0, 0), (85, .if_icmp .ge 20, 3, 0, 0, 0), (88, .lload_n 1, 1, 0, 0, 0), (89, .aload_n 0, 1, 0, 0, 0), (90, .iload_n 3, 1, 0, 0, 0), (91, .invokevirtual 235, 3, 76, 1, 0), (94, .i2l, 1, 0, 0, 0), (95, .invokestatic 231, 3, 97, 2, 0), (98, .lstore_n 1, 1, 0, 0, 0), (99, .iinc 3 1, 3, 0, 0, 0), (102, .goto (-19), 3, 0, 0, 0), (105, .aload_n 0, 1, 0, 0, 0), (106, .invokevirtual 163, 3, 98, 0, 0), (109, .ifCond .eq 9, 3, 0, 0, 0), (112, .aload_n 0, 1, 0, 0, 0), (113, .lload_n 1, 1, 0, 0, 0), (114, .invokevirtual 238, 3, 96, 1, 0), (117, .lstore_n 1, 1, 0, 0, 0), (118, .iconst (-1), 1, 0, 0, 0), (119, .istore_n 3, 1, 0, 0, 0), (120, .iload_n 3, 1, 0, 0, 0), (121, .aload_n 0, 1, 0, 0, 0), (122, .getfield 44, 3, 8, 5, 0), (125, .getfield 184, 3, 3, 8, 0), (128, .if_icmp .ge 20, 3, 0, 0, 0), (131, .lload_n 1, 1, 0, 0, 0), (132, .aload_n 0, 1, 0, 0, 0), (133, .iload_n 3, 1, 0, 0, 0), (134, .invokevirtual 242, 3, 86, 1, 0), (137, .i2l, 1, 0, 0, 0), (138, .invokestatic 231, 3, 97, 2, 0), (141, .lstore_n 1, 1, 0, 0, 0), (142, .iinc 3 1, 3, 0, 0, 0), (145, .goto (-25), 3, 0, 0, 0), (148, .iconst 0, 1, 0, 0, 0), (149, .istore_n 3, 1, 0, 0, 0), (150, .iload_n 3, 1, 0, 0, 0), (151, .aload_n 0, 1, 0, 0, 0), (152, .getfield 10, 3, 8, 0, 0), (155, .getfield 55, 3, 4, 1, 0), (158, .if_icmp .ge 23, 3, 0, 0, 0), (161, .lload_n 1, 1, 0, 0, 0), (162, .aload_n 0, 1, 0, 0, 0), (163, .getfield 10, 3, 8, 0, 0), (166, .iload_n 3, 1, 0, 0, 0), (167, .invokevirtual 244, 3, 41, 1, 0), (170, .i2l, 1, 0, 0, 0), (171, .invokestatic 231, 3, 97, 2, 0), (174, .lstore_n 1, 1, 0, 0, 0), (175, .iinc 3 1, 3, 0, 0, 0), (178, .goto (-28), 3, 0, 0, 0), (181, .iconst 0, 1, 0, 0, 0), (182, .istore_n 3, 1, 0, 0, 0), (183, .iload_n 3, 1, 0, 0, 0), (184, .bipush 8, 2, 0, 0, 0), (186, .if_icmp .ge 20, 3, 0, 0, 0), (189, .lload_n 1, 1, 0, 0, 0), (190, .aload_n 0, 1, 0, 0, 0), (191, .iload_n 3, 1, 0, 0, 0), (192, .invokevirtual 247, 3, 93, 1, 0), (195, .i2l, 1, 0, 0, 0), (196, .invokestatic 231, 3, 97, 2, 0), (199, .lstore_n 1, 1, 0, 0, 0), (200, .iinc 3 1, 3, 0, 0, 0), (203, .goto (-20), 3, 0, 0, 0), (206, .lload_n 1, 1, 0, 0, 0), (207, .lreturn, 1, 0, 0, 0)]
def px_t95 : List (Nat × px_K) := [(0, .lload_n 1, 1, 0, 0, 0), (1, .lstore 4, 2, 0, 0, 0), (3, .iconst 0, 1, 0, 0, 0), (4, .istore 6, 2, 0, 0, 0), (6, .iload 6, 2, 0, 0, 0), (8, .bipush 10, 2, 0, 0, 0), (10, .if_icmp .ge 42, 3, 0, 0, 0), (13, .iconst 0, 1, 0, 0, 0), (14, .istore 7, 2, 0, 0, 0), (16, .iload 7, 2, 0, 0, 0), (18, .bipush 6, 2, 0, 0, 0), (20, .if_icmp .ge 26, 3, 0, 0, 0), (23, .lload 4, 2, 0, 0, 0), (25, .aload_n 0, 1, 0, 0, 0), (26, .iload_n 3, 1, 0, 0, 0), (27, .iload 6, 2, 0, 0, 0), (29, .iload 7, 2, 0, 0, 0), (31, .invokevirtual 250, 3, 72, 3, 0), (34, .i2l, 1, 0, 0, 0), (35, .invokestatic 231, 3, 97, 2, 0), (38, .lstore 4, 2, 0, 0, 0), (40, .iinc 7 1, 3, 0, 0, 0), (43, .goto (-27), 3, 0, 0, 0), (46, .iinc 6 1, 3, 0, 0, 0), (49, .goto (-43), 3, 0, 0, 0), (52, .iconst 0, 1, 0, 0, 0), (53, .istore 6, 2, 0, 0, 0), (55, .iload 6, 2, 0, 0, 0), (57, .aload_n 0, 1, 0, 0, 0), (58, .getfield 44, 3, 8, 5, 0), (61, .getfield 98, 3, 3, 0, 0), (64, .iload_n 3, 1, 0, 0, 0), (65, .invokevirtual 253, 3, 3, 1, 0), (68, .if_icmp .ge 42, 3, 0, 0, 0), (71, .iconst 0, 1, 0, 0, 0), (72, .istore 7, 2, 0, 0, 0), (74, .iload 7, 2, 0, 0, 0), (76, .bipush 7, 2, 0, 0, 0), (78, .if_icmp .ge 26, 3, 0, 0, 0), (81, .lload 4, 2, 0, 0, 0), (83, .aload_n 0, 1, 0, 0, 0), (84, .iload_n 3, 1, 0, 0, 0), (85, .iload 6, 2, 0, 0, 0), (87, .iload 7, 2, 0, 0, 0), (89, .invokevirtual 256, 3, 73, 3, 0), (92, .i2l, 1, 0, 0, 0), (93, .invokestatic 231, 3, 97, 2, 0), (96, .lstore 4, 2, 0, 0, 0), (98, .iinc 7 1, 3, 0, 0, 0), (101, .goto (-27), 3, 0, 0, 0), (104, .iinc 6 1, 3, 0, 0, 0), (107, .goto (-52), 3, 0, 0, 0), (110, .lload 4, 2, 0, 0, 0), (112, .lreturn, 1, 0, 0, 0)]
def px_t96 : List (Nat × px_K) := [(0, .lload_n 1, 1, 0, 0, 0), (1, .lstore_n 3, 1, 0, 0, 0), (2, .iconst 0, 1, 0, 0, 0), (3, .istore 5, 2, 0, 0, 0), (5, .iload 5, 2, 0, 0, 0), (7, .iconst 5, 1, 0, 0, 0), (8, .if_icmp .ge 38, 3, 0, 0, 0), (11, .iconst 0, 1, 0, 0, 0), (12, .istore 6, 2, 0, 0, 0), (14, .iload 6, 2, 0, 0, 0), (16, .iconst 3, 1, 0, 0, 0), (17, .if_icmp .ge 23, 3, 0, 0, 0), (20, .lload_n 3, 1, 0, 0, 0), (21, .aload_n 0, 1, 0, 0, 0), (22, .iload 5, 2, 0, 0, 0), (24, .iload 6, 2, 0, 0, 0), (26, .invokevirtual 259, 3, 84, 2, 0), (29, .i2l, 1, 0, 0, 0), (30, .invokestatic 231, 3, 97, 2, 0), (33, .lstore_n 3, 1, 0, 0, 0), (34, .iinc 6 1, 3, 0, 0, 0), (37, .goto (-23), 3, 0, 0, 0), (40, .iinc 5 1, 3, 0, 0, 0), (43, .goto (-38), 3, 0, 0, 0), (46, .lload_n 3, 1, 0, 0, 0), (47, .aload_n 0, 1, 0, 0, 0), (48, .invokevirtual 262, 3, 85, 0, 0), (51, .i2l, 1, 0, 0, 0), (52, .invokestatic 231, 3, 97, 2, 0), (55, .lreturn, 1, 0, 0, 0)]
def px_t97 : List (Nat × px_K) := [(0, .ldc2_w 265, 3, 0, 0, 31), (3, .lload_n 0, 1, 0, 0, 0), (4, .lmul, 1, 0, 0, 0), (5, .lload_n 2, 1, 0, 0, 0), (6, .ladd, 1, 0, 0, 0), (7, .lreturn, 1, 0, 0, 0)]
def px_t98 : List (Nat × px_K) := [(0, .aload_n 0, 1, 0, 0, 0), (1, .getfield 44, 3, 8, 5, 0), (4, .getfield 98, 3, 3, 0, 0), (7, .getfield 87, 3, 0, 0, 0), (10, .ifCond .le 7, 3, 0, 0, 0), (13, .iconst 1, 1, 0, 0, 0), (14, .goto 4, 3, 0, 0, 0), (17, .iconst 0, 1, 0, 0, 0), (18, .ireturn, 1, 0, 0, 0)]
def px_t99 : List (Nat × px_K) := [(0, .iload_n 1, 1, 0, 0, 0), (1, .aload_n 0, 1, 0, 0, 0), (2, .getfield 44, 3, 8, 5, 0), (5, .getfield 98, 3, 3, 0, 0), (8, .getfield 87, 3, 0, 0, 0), (11, .invokestatic 94, 3, 102, 2, 0), (14, .ireturn, 1, 0, 0, 0)]
def px_t100 : List (Nat × px_K) := [(0, .aload_n 0, 1, 0, 0, 0), (1, .iload_n 1, 1, 0, 0, 0), (2, .invokevirtual 90, 3, 99, 1, 0), (5, .ifCond .eq 25, 3, 0, 0, 0), (8, .iload_n 2, 1, 0, 0, 0), (9, .aload_n 0, 1, 0, 0, 0), (10, .getfield 44, 3, 8, 5, 0), (13, .getfield 98, 3, 3, 0, 0), (16, .iload_n 1, 1, 0, 0, 0), (17, .invokevirtual 253, 3, 3, 1, 0), (20, .invokestatic 94, 3, 102, 2, 0), (23, .ifCond .eq 7, 3, 0, 0, 0), (26, .iconst 1, 1, 0, 0, 0), (27, .goto 4, 3, 0, 0, 0), (30, .iconst 0, 1, 0, 0, 0), (31, .ireturn, 1, 0, 0, 0)]
def px_t101 : List (Nat × px_K) := [(0, .aload_n 0, 1, 0, 0, 0), (1, .getfield 19, 3, 8, 1, 0), (4, .aload_n 0, 1, 0, 0, 0), (5, .getfield 44, 3, 8, 5, 0), (8, .invokevirtual 267, 3, 21, 1, 0), (11, .aload_n 0, 1, 0, 0, 0), (12, .new 36, 3, 3, 9, 0), (15, .dup, 1, 0, 0, 0), (16, .aload_n 0, 1, 0, 0, 0), (17, .getfield 44, 3, 8, 5, 0), (20, .invokespecial 194, 3, 25, 1, 0), (23, .putfield 44, 3, 8, 5, 0), (26, .return_, 1, 0, 0, 0)]
def px_t102 : List (Nat × px_K) := [(0, .iload_n 0, 1, 0, 0, 0), (1, .ifCond .lt 12, 3, 0, 0, 0), (4, .iload_n 0, 1, 0, 0, 0), (5, .iload_n 1, 1, 0, 0, 0), (6, .if_icmp .ge 7, 3, 0, 0, 0), (9, .iconst 1, 1, 0, 0, 0), (10, .goto 4, 3, 0, 0, 0), (13, .iconst 0, 1, 0, 0, 0), (14, .ireturn, 1, 0, 0, 0)]
def px_t103 : List (Nat × px_K) := [(0, .iload_n 0, 1, 0, 0, 0), (1, .iconst 3, 1, 0, 0, 0), (2, .imul, 1, 0, 0, 0), (3, .iload_n 1, 1, 0, 0, 0), (4, .iadd, 1, 0, 0, 0), (5, .ireturn, 1, 0, 0, 0)]
def px_t104 : List (Nat × px_K) := [(0, .iload_n 0, 1, 0, 0, 0), (1, .lookupswitch 61 #[(97, 53), (99, 51), (102, 55), (103, 59), (117, 57)], 51, 0, 0, 0), (52, .iconst 0, 1, 0, 0, 0), (53, .ireturn, 1, 0, 0, 0), (54, .iconst 1, 1, 0, 0, 0), (55, .ireturn, 1, 0, 0, 0), (56, .iconst 2, 1, 0, 0, 0), (57, .ireturn, 1, 0, 0, 0), (58, .iconst 3, 1, 0, 0, 0), (59, .ireturn, 1, 0, 0, 0), (60, .iconst 4, 1, 0, 0, 0), (61, .ireturn, 1, 0, 0, 0), (62, .iconst (-1), 1, 0, 0, 0), (63, .ireturn, 1, 0, 0, 0)]
def px_t105 : List (Nat × px_K) := [(0, .iload_n 1, 1, 0, 0, 0), (1, .ifCond .eq 18, 3, 0, 0, 0), (4, .iload_n 0, 1, 0, 0, 0), (5, .iload_n 1, 1, 0, 0, 0), (6, .if_icmp .eq 13, 3, 0, 0, 0), (9, .iload_n 0, 1, 0, 0, 0), (10, .iconst 4, 1, 0, 0, 0), (11, .if_icmp .ne 12, 3, 0, 0, 0), (14, .iload_n 1, 1, 0, 0, 0), (15, .iconst 2, 1, 0, 0, 0), (16, .if_icmp .ne 7, 3, 0, 0, 0), (19, .iconst 1, 1, 0, 0, 0), (20, .goto 4, 3, 0, 0, 0), (23, .iconst 0, 1, 0, 0, 0), (24, .ireturn, 1, 0, 0, 0)]
def px_t106 : List (Nat × px_K) := [(0, .iload_n 0, 1, 0, 0, 0), (1, .tableswitch 57 0 3 #[31, 42, 44, 46], 31, 0, 0, 0), (32, .iload_n 2, 1, 0, 0, 0), (33, .iload_n 1, 1, 0, 0, 0), (34, .if_icmp .ne 7, 3, 0, 0, 0), (37, .iconst 1, 1, 0, 0, 0), (38, .goto 4, 3, 0, 0, 0), (41, .iconst 0, 1, 0, 0, 0), (42, .ireturn, 1, 0, 0, 0), (43, .iconst 1, 1, 0, 0, 0), (44, .ireturn, 1, 0, 0, 0), (45, .iconst 2, 1, 0, 0, 0), (46, .ireturn, 1, 0, 0, 0), (47, .iload_n 2, 1, 0, 0, 0), (48, .iload_n 1, 1, 0, 0, 0), (49, .if_icmp .lt 7, 3, 0, 0, 0), (52, .iconst 1, 1, 0, 0, 0), (53, .goto 4, 3, 0, 0, 0), (56, .iconst 0, 1, 0, 0, 0), (57, .ireturn, 1, 0, 0, 0), (58, .iload_n 2, 1, 0, 0, 0), (59, .iload_n 1, 1, 0, 0, 0), (60, .if_icmp .ne 7, 3, 0, 0, 0), (63, .iconst 1, 1, 0, 0, 0), (64, .goto 4, 3, 0, 0, 0), (67, .iconst 2, 1, 0, 0, 0), (68, .ireturn, 1, 0, 0, 0)]
def px_t107 : List (Nat × px_K) := [(0, .iconst (-1), 1, 0, 0, 0), (1, .istore_n 2, 1, 0, 0, 0), (2, .bipush 6, 2, 0, 0, 0), (4, .istore_n 3, 1, 0, 0, 0), (5, .iconst 0, 1, 0, 0, 0), (6, .istore 4, 2, 0, 0, 0), (8, .iload 4, 2, 0, 0, 0), (10, .iconst 5, 1, 0, 0, 0), (11, .if_icmp .ge 34, 3, 0, 0, 0), (14, .iload_n 0, 1, 0, 0, 0), (15, .ifCond .eq 30, 3, 0, 0, 0), (18, .iload_n 0, 1, 0, 0, 0), (19, .iload_n 1, 1, 0, 0, 0), (20, .iload 4, 2, 0, 0, 0), (22, .invokestatic 270, 3, 108, 3, 0), (25, .istore 5, 2, 0, 0, 0), (27, .iload 5, 2, 0, 0, 0), (29, .iload_n 3, 1, 0, 0, 0), (30, .if_icmp .ge 9, 3, 0, 0, 0), (33, .iload 5, 2, 0, 0, 0), (35, .istore_n 3, 1, 0, 0, 0), (36, .iload 4, 2, 0, 0, 0), (38, .istore_n 2, 1, 0, 0, 0), (39, .iinc 4 1, 3, 0, 0, 0), (42, .goto (-34), 3, 0, 0, 0), (45, .iload_n 2, 1, 0, 0, 0), (46, .ireturn, 1, 0, 0, 0)]
def px_t108 : List (Nat × px_K) := [(0, .iconst 0, 1, 0, 0, 0), (1, .istore_n 3, 1, 0, 0, 0), (2, .iconst 0, 1, 0, 0, 0), (3, .istore 4, 2, 0, 0, 0), (5, .iload 4, 2, 0, 0, 0), (7, .iconst 3, 1, 0, 0, 0), (8, .if_icmp .ge 59, 3, 0, 0, 0), (11, .iconst 0, 1, 0, 0, 0), (12, .istore 5, 2, 0, 0, 0), (14, .iconst 0, 1, 0, 0, 0), (15, .istore 6, 2, 0, 0, 0), (17, .iload 6, 2, 0, 0, 0), (19, .iconst 5, 1, 0, 0, 0), (20, .if_icmp .ge 34, 3, 0, 0, 0), (23, .iload_n 0, 1, 0, 0, 0), (24, .iload 6, 2, 0, 0, 0), (26, .ishr, 1, 0, 0, 0), (27, .iconst 1, 1, 0, 0, 0), (28, .iand, 1, 0, 0, 0), (29, .iconst 1, 1, 0, 0, 0), (30, .if_icmp .ne 18, 3, 0, 0, 0), (33, .iload 6, 2, 0, 0, 0), (35, .iload_n 1, 1, 0, 0, 0), (36, .iload_n 2, 1, 0, 0, 0), (37, .invokestatic 273, 3, 106, 3, 0), (40, .iload 4, 2, 0, 0, 0), (42, .if_icmp .ne 6, 3, 0, 0, 0), (45, .iinc 5 1, 3, 0, 0, 0), (48, .iinc 6 1, 3, 0, 0, 0), (51, .goto (-34), 3, 0, 0, 0), (54, .iload_n 3, 1, 0, 0, 0), (55, .iload 5, 2, 0, 0, 0), (57, .invokestatic 276, 3, 1003, 0, 0), (60, .istore_n 3, 1, 0, 0, 0), (61, .iinc 4 1, 3, 0, 0, 0), (64, .goto (-59), 3, 0, 0, 0), (67, .iload_n 3, 1, 0, 0, 0), (68, .ireturn, 1, 0, 0, 0)]
def px_t109 : List (Nat × px_K) := [(0, .aload_n 0, 1, 0, 0, 0), (1, .invokespecial 1, 3, 1000, 0, 0), (4, .aload_n 0, 1, 0, 0, 0), (5, .bipush 100, 2, 0, 0, 0), (7, .newarray .int, 2, 0, 0, 0), (9, .putfield 7, 3, 9, 0, 0), (12, .aload_n 0, 1, 0, 0, 0), (13, .iconst 3, 1, 0, 0, 0), (14, .newarray .int, 2, 0, 0, 0), (16, .putfield 13, 3, 9, 10, 0), (19, .aload_n 0, 1, 0, 0, 0), (20, .iconst 3, 1, 0, 0, 0), (21, .newarray .int, 2, 0, 0, 0), (23, .putfield 16, 3, 9, 11, 0), (26, .aload_n 0, 1, 0, 0, 0), (27, .bipush 72, 2, 0, 0, 0), (29, .newarray .int, 2, 0, 0, 0), (31, .putfield 19, 3, 9, 12, 0), (34, .aload_n 0, 1, 0, 0, 0), (35, .bipush 45, 2, 0, 0, 0), (37, .newarray .int, 2, 0, 0, 0), (39, .putfield 22, 3, 9, 13, 0), (42, .aload_n 0, 1, 0, 0, 0), (43, .bipush 120, 2, 0, 0, 0), (45, .newarray .int, 2, 0, 0, 0), (47, .putfield 25, 3, 9, 16, 0), (50, .aload_n 0, 1, 0, 0, 0), (51, .bipush 30, 2, 0, 0, 0), (53, .newarray .int, 2, 0, 0, 0), (55, .putfield 28, 3, 9, 17, 0), (58, .aload_n 0, 1, 0, 0, 0), (59, .bipush 30, 2, 0, 0, 0), (61, .newarray .int, 2, 0, 0, 0), (63, .putfield 31, 3, 9, 18, 0), (66, .aload_n 0, 1, 0, 0, 0), (67, .iconst 3, 1, 0, 0, 0), (68, .newarray .int, 2, 0, 0, 0), (70, .putfield 34, 3, 9, 19, 0), (73, .aload_n 0, 1, 0, 0, 0), (74, .iconst 3, 1, 0, 0, 0), (75, .newarray .int, 2, 0, 0, 0), (77, .putfield 37, 3, 9, 20, 0), (80, .aload_n 0, 1, 0, 0, 0), (81, .bipush 72, 2, 0, 0, 0), (83, .newarray .int, 2, 0, 0, 0), (85, .putfield 40, 3, 9, 21, 0), (88, .aload_n 0, 1, 0, 0, 0), (89, .bipush 45, 2, 0, 0, 0), (91, .newarray .int, 2, 0, 0, 0), (93, .putfield 43, 3, 9, 22, 0), (96, .aload_n 0, 1, 0, 0, 0), (97, .bipush 16, 2, 0, 0, 0), (99, .newarray .int, 2, 0, 0, 0), (101, .putfield 46, 3, 9, 23, 0), (104, .aload_n 0, 1, 0, 0, 0), (105, .bipush 110, 2, 0, 0, 0), (107, .newarray .int, 2, 0, 0, 0), (109, .putfield 49, 3, 9, 25, 0), (112, .aload_n 0, 1, 0, 0, 0), (113, .sipush 3300, 3, 0, 0, 0), (116, .newarray .int, 2, 0, 0, 0), (118, .putfield 52, 3, 9, 26, 0), (121, .aload_n 0, 1, 0, 0, 0), (122, .bipush 24, 2, 0, 0, 0), (124, .newarray .int, 2, 0, 0, 0), (126, .putfield 55, 3, 9, 32, 0), (129, .aload_n 0, 1, 0, 0, 0), (130, .bipush 110, 2, 0, 0, 0), (132, .newarray .int, 2, 0, 0, 0), (134, .putfield 58, 3, 9, 34, 0), (137, .aload_n 0, 1, 0, 0, 0), (138, .bipush 110, 2, 0, 0, 0), (140, .newarray .int, 2, 0, 0, 0), (142, .putfield 61, 3, 9, 38, 0), (145, .aload_n 0, 1, 0, 0, 0), (146, .sipush 3300, 3, 0, 0, 0), (149, .newarray .int, 2, 0, 0, 0), (151, .putfield 64, 3, 9, 39, 0), (154, .aload_n 0, 1, 0, 0, 0), (155, .bipush 24, 2, 0, 0, 0), (157, .newarray .int, 2, 0, 0, 0), (159, .putfield 67, 3, 9, 40, 0), (162, .aload_n 0, 1, 0, 0, 0), (163, .iconst (-1), 1, 0, 0, 0), (164, .putfield 70, 3, 9, 35, 0), (167, .return_, 1, 0, 0, 0)]
def px_t110 : List (Nat × px_K) := [(0, .lload_n 0, 1, 0, 0, 0), (1, .lload_n 2, 1, 0, 0, 0), (2, .lcmp, 1, 0, 0, 0), (3, .ifCond .lt 14, 3, 0, 0, 0), (6, .lload_n 0, 1, 0, 0, 0), (7, .lload 4, 2, 0, 0, 0), (9, .lcmp, 1, 0, 0, 0), (10, .ifCond .gt 7, 3, 0, 0, 0), (13, .iconst 1, 1, 0, 0, 0), (14, .goto 4, 3, 0, 0, 0), (17, .iconst 0, 1, 0, 0, 0), (18, .ireturn, 1, 0, 0, 0)]
def px_t111 : List (Nat × px_K) := [(0, .iload_n 1, 1, 0, 0, 0), (1, .i2l, 1, 0, 0, 0), (2, .lconst 1, 1, 0, 0, 0), (3, .ldc2_w 74, 3, 0, 0, 126), (6, .invokestatic 76, 3, 110, 3, 0), (9, .ifCond .ne 6, 3, 0, 0, 0), (12, .bipush (-102), 2, 0, 0, 0), (14, .ireturn, 1, 0, 0, 0), (15, .aload_n 0, 1, 0, 0, 0), (16, .getfield 80, 3, 9, 1, 0), (19, .bipush 100, 2, 0, 0, 0), (21, .if_icmp .ne 6, 3, 0, 0, 0), (24, .bipush (-104), 2, 0, 0, 0), (26, .ireturn, 1, 0, 0, 0), (27, .aload_n 0, 1, 0, 0, 0), (28, .getfield 7, 3, 9, 0, 0), (31, .aload_n 0, 1, 0, 0, 0), (32, .getfield 80, 3, 9, 1, 0), (35, .iload_n 1, 1, 0, 0, 0), (36, .iastore, 1, 0, 0, 0), (37, .aload_n 0, 1, 0, 0, 0), (38, .dup, 1, 0, 0, 0), (39, .getfield 80, 3, 9, 1, 0), (42, .iconst 1, 1, 0, 0, 0), (43, .iadd, 1, 0, 0, 0), (44, .putfield 80, 3, 9, 1, 0), (47, .aload_n 0, 1, 0, 0, 0), (48, .getfield 80, 3, 9, 1, 0), (51, .ireturn, 1, 0, 0, 0)]
def px_t112 : List (Nat × px_K) := [(0, .aload_n 0, 1, 0, 0, 0), (1, .getfield 80, 3, 9, 1, 0), (4, .istore_n 1, 1, 0, 0, 0), (5, .aload_n 0, 1, 0, 0, 0), (6, .iconst 0, 1, 0, 0, 0), (7, .putfield 80, 3, 9, 1, 0), (10, .iload_n 1, 1, 0, 0, 0), (11, .ireturn, 1, 0, 0, 0)]
def px_t113 : List (Nat × px_K) := [(0, .iload_n 0, 1, 0, 0, 0), (1, .lookupswitch 61 #[(97, 53), (99, 51), (102, 55), (103, 59), (117, 57)], 51, 0, 0, 0), (52, .iconst 0, 1, 0, 0, 0), (53, .ireturn, 1, 0, 0, 0), (54, .iconst 1, 1, 0, 0, 0), (55, .ireturn, 1, 0, 0, 0), (56, .iconst 2, 1, 0, 0, 0), (57, .ireturn, 1, 0, 0, 0), (58, .iconst 3, 1, 0, 0, 0), (59, .ireturn, 1, 0, 0, 0), (60, .iconst 4, 1, 0, 0, 0), (61, .ireturn, 1, 0, 0, 0), (62, .iconst (-1), 1, 0, 0, 0), (63, .ireturn, 1, 0, 0, 0)]
def px_t114 : List (Nat × px_K) := [(0, .aload_n 0, 1, 0, 0, 0), (1, .iconst 0, 1, 0, 0, 0), (2, .putfield 83, 3, 9, 3, 0), (5, .aload_n 0, 1, 0, 0, 0), (6, .iconst 0, 1, 0, 0, 0), (7, .putfield 86, 3, 9, 4, 0), (10, .aload_n 0, 1, 0, 0, 0), (11, .iconst 0, 1, 0, 0, 0), (12, .putfield 89, 3, 9, 5, 0), (15, .aload_n 0, 1, 0, 0, 0), (16, .iconst 0, 1, 0, 0, 0), (17, .putfield 93, 3, 9, 6, 0), (20, .aload_n 0, 1, 0, 0, 0), (21, .iconst 0, 1, 0, 0, 0), (22, .putfield 96, 3, 9, 8, 0), (25, .aload_n 0, 1, 0, 0, 0), (26, .iconst 0, 1, 0, 0, 0), (27, .putfield 99, 3, 9, 9, 0), (30, .return_, 1, 0, 0, 0)]
def px_t115 : List (Nat × px_K) := [(0, .iload_n 0, 1, 0, 0, 0), (1, .bipush 115, 2, 0, 0, 0), (3, .if_icmp .ne 7, 3, 0, 0, 0), (6, .iconst 2, 1, 0, 0, 0), (7, .goto 20, 3, 0, 0, 0), (10, .iload_n 0, 1, 0, 0, 0), (11, .bipush 43, 2, 0, 0, 0), (13, .if_icmp .eq 9, 3, 0, 0, 0), (16, .iload_n 0, 1, 0, 0, 0), (17, .bipush 117, 2, 0, 0, 0), (19, .if_icmp .ne 7, 3, 0, 0, 0), (22, .iconst 1, 1, 0, 0, 0), (23, .goto 4, 3, 0, 0, 0), (26, .iconst 0, 1, 0, 0, 0), (27, .ireturn, 1, 0, 0, 0)]
def px_t116 : List (Nat × px_K) := [(0, .aload_n 0, 1, 0, 0, 0), (1, .getfield 93, 3, 9, 6, 0), (4, .aload_n 0, 1, 0, 0, 0), (5, .getfield 102, 3, 9, 7, 0), (8, .invokestatic 105, 3, 115, 1, 0), (11, .if_icmp .le 31, 3, 0, 0, 0), (14, .aload_n 0, 1, 0, 0, 0), (15, .iconst 0, 1, 0, 0, 0), (16, .putfield 93, 3, 9, 6, 0), (19, .aload_n 0, 1, 0, 0, 0), (20, .dup, 1, 0, 0, 0), (21, .getfield 83, 3, 9, 3, 0), (24, .iconst 1, 1, 0, 0, 0), (25, .iadd, 1, 0, 0, 0), (26, .putfield 83, 3, 9, 3, 0), (29, .aload_n 0, 1, 0, 0, 0), (30, .getfield 13, 3, 9, 10, 0), (33, .aload_n 0, 1, 0, 0, 0), (34, .getfield 109, 3, 9, 2, 0), (37, .aload_n 0, 1, 0, 0, 0), (38, .getfield 83, 3, 9, 3, 0), (41, .iastore, 1, 0, 0, 0), (42, .return_, 1, 0, 0, 0)]
def px_t117 : List (Nat × px_K) := [(0, .iload_n 1, 1, 0, 0, 0), (1, .bipush 59, 2, 0, 0, 0), (3, .if_icmp .ne 10, 3, 0, 0, 0), (6, .aload_n 0, 1, 0, 0, 0), (7, .iconst 1, 1, 0, 0, 0), (8, .putfield 89, 3, 9, 5, 0), (11, .iconst 1, 1, 0, 0, 0), (12, .ireturn, 1, 0, 0, 0), (13, .iload_n 1, 1, 0, 0, 0), (14, .bipush 43, 2, 0, 0, 0), (16, .if_icmp .eq 42, 3, 0, 0, 0), (19, .iload_n 1, 1, 0, 0, 0), (20, .bipush 115, 2, 0, 0, 0), (22, .if_icmp .eq 36, 3, 0, 0, 0), (25, .iload_n 1, 1, 0, 0, 0), (26, .bipush 117, 2, 0, 0, 0), (28, .if_icmp .eq 30, 3, 0, 0, 0), (31, .iload_n 1, 1, 0, 0, 0), (32, .bipush 109, 2, 0, 0, 0), (34, .if_icmp .ne 11, 3, 0, 0, 0), (37, .aload_n 0, 1, 0, 0, 0), (38, .getfield 99, 3, 9, 9, 0), (41, .iconst 3, 1, 0, 0, 0), (42, .if_icmp .lt 16, 3, 0, 0, 0), (45, .iload_n 1, 1, 0, 0, 0), (46, .bipush 98, 2, 0, 0, 0), (48, .if_icmp .ne 14, 3, 0, 0, 0), (51, .aload_n 0, 1, 0, 0, 0), (52, .getfield 99, 3, 9, 9, 0), (55, .ifCond .le 7, 3, 0, 0, 0), (58, .iconst 1, 1, 0, 0, 0), (59, .goto 4, 3, 0, 0, 0), (62, .iconst 0, 1, 0, 0, 0), (63, .istore_n 2, 1, 0, 0, 0), (64, .iload_n 2, 1, 0, 0, 0), (65, .ifCond .eq 12, 3, 0, 0, 0), (68, .aload_n 0, 1, 0, 0, 0), (69, .getfield 83, 3, 9, 3, 0), (72, .bipush 8, 2, 0, 0, 0), (74, .if_icmp .ne 5, 3, 0, 0, 0), (77, .iconst 0, 1, 0, 0, 0), (78, .ireturn, 1, 0, 0, 0), (79, .aload_n 0, 1, 0, 0, 0), (80, .dup, 1, 0, 0, 0), (81, .getfield 99, 3, 9, 9, 0), (84, .iload_n 1, 1, 0, 0, 0), (85, .bipush 109, 2, 0, 0, 0), (87, .if_icmp .ne 7, 3, 0, 0, 0), (90, .iconst 1, 1, 0, 0, 0), (91, .goto 14, 3, 0, 0, 0), (94, .iload_n 1, 1, 0, 0, 0), (95, .bipush 98, 2, 0, 0, 0), (97, .if_icmp .ne 7, 3, 0, 0, 0), (100, .iconst (-1), 1, 0, 0, 0), (101, .goto 4, 3, 0, 0, 0), (104, .iconst 0, 1, 0, 0, 0), (105, .iadd, 1, 0, 0, 0), (106, .putfield 99, 3, 9, 9, 0), (109, .aload_n 0, 1, 0, 0, 0), (110, .iload_n 1, 1, 0, 0, 0), (111, .putfield 102, 3, 9, 7, 0), (114, .aload_n 0, 1, 0, 0, 0), (115, .getfield 19, 3, 9, 12, 0), (118, .bipush 24, 2, 0, 0, 0), (120, .aload_n 0, 1, 0, 0, 0), (121, .getfield 109, 3, 9, 2, 0), (124, .imul, 1, 0, 0, 0), (125, .iconst 3, 1, 0, 0, 0), (126, .aload_n 0, 1, 0, 0, 0), (127, .getfield 83, 3, 9, 3, 0), (130, .imul, 1, 0, 0, 0), (131, .iadd, 1, 0, 0, 0), (132, .iload_n 1, 1, 0, 0, 0), (133, .iastore, 1, 0, 0, 0), (134, .aload_n 0, 1, 0, 0, 0), (135, .iconst 1, 1, 0, 0, 0), (136, .putfield 93, 3, 9, 6, 0), (139, .aload_n 0, 1, 0, 0, 0), (140, .invokevirtual 112, 3, 116, 0, 0), (143, .iconst 1, 1, 0, 0, 0), (144, .ireturn, 1, 0, 0, 0)]
def px_t118 : List (Nat × px_K) := [(0, .aload_n 0, 1, 0, 0, 0), (1, .getfield 102, 3, 9, 7, 0), (4, .bipush 43, 2, 0, 0, 0), (6, .if_icmp .ne 39, 3, 0, 0, 0), (9, .iload_n 1, 1, 0, 0, 0), (10, .i2l, 1, 0, 0, 0), (11, .ldc2_w 115, 3, 0, 0, 49), (14, .ldc2_w 117, 3, 0, 0, 57), (17, .invokestatic 76, 3, 110, 3, 0), (20, .ifCond .eq 21, 3, 0, 0, 0), (23, .aload_n 0, 1, 0, 0, 0), (24, .getfield 96, 3, 9, 8, 0), (27, .iload_n 1, 1, 0, 0, 0), (28, .iadd, 1, 0, 0, 0), (29, .bipush 48, 2, 0, 0, 0), (31, .isub, 1, 0, 0, 0), (32, .bipush 10, 2, 0, 0, 0), (34, .if_icmp .ge 7, 3, 0, 0, 0), (37, .iconst 1, 1, 0, 0, 0), (38, .goto 32, 3, 0, 0, 0), (41, .iconst 0, 1, 0, 0, 0), (42, .goto 28, 3, 0, 0, 0), (45, .iload_n 1, 1, 0, 0, 0), (46, .i2l, 1, 0, 0, 0), (47, .ldc2_w 119, 3, 0, 0, 48), (50, .aload_n 0, 1, 0, 0, 0), (51, .getfield 93, 3, 9, 6, 0), (54, .iconst 1, 1, 0, 0, 0), (55, .if_icmp .ne 9, 3, 0, 0, 0), (58, .ldc2_w 121, 3, 0, 0, 51), (61, .goto 6, 3, 0, 0, 0), (64, .ldc2_w 123, 3, 0, 0, 53), (67, .invokestatic 76, 3, 110, 3, 0), (70, .istore_n 2, 1, 0, 0, 0), (71, .aload_n 0, 1, 0, 0, 0), (72, .dup, 1, 0, 0, 0), (73, .getfield 96, 3, 9, 8, 0), (76, .aload_n 0, 1, 0, 0, 0), (77, .getfield 102, 3, 9, 7, 0), (80, .bipush 43, 2, 0, 0, 0), (82, .if_icmp .ne 10, 3, 0, 0, 0), (85, .iload_n 1, 1, 0, 0, 0), (86, .bipush 48, 2, 0, 0, 0), (88, .isub, 1, 0, 0, 0), (89, .goto 4, 3, 0, 0, 0), (92, .iconst 0, 1, 0, 0, 0), (93, .iadd, 1, 0, 0, 0), (94, .putfield 96, 3, 9, 8, 0), (97, .aload_n 0, 1, 0, 0, 0), (98, .getfield 19, 3, 9, 12, 0), (101, .bipush 24, 2, 0, 0, 0), (103, .aload_n 0, 1, 0, 0, 0), (104, .getfield 109, 3, 9, 2, 0), (107, .imul, 1, 0, 0, 0), (108, .iconst 3, 1, 0, 0, 0), (109, .aload_n 0, 1, 0, 0, 0), (110, .getfield 83, 3, 9, 3, 0), (113, .imul, 1, 0, 0, 0), (114, .iadd, 1, 0, 0, 0), (115, .aload_n 0, 1, 0, 0, 0), (116, .getfield 93, 3, 9, 6, 0), (119, .iadd, 1, 0, 0, 0), (120, .iload_n 1, 1, 0, 0, 0), (121, .bipush 48, 2, 0, 0, 0), (123, .isub, 1, 0, 0, 0), (124, .iastore, 1, 0, 0, 0), (125, .aload_n 0, 1, 0, 0, 0), (126, .dup, 1, 0, 0, 0), (127, .getfield 93, 3, 9, 6, 0), (130, .iconst 1, 1, 0, 0, 0), (131, .iadd, 1, 0, 0, 0), (132, .putfield 93, 3, 9, 6, 0), (135, .aload_n 0, 1, 0, 0, 0), (136, .invokevirtual 112, 3, 116, 0, 0), (139, .iload_n 2, 1, 0, 0, 0), (140, .ireturn, 1, 0, 0, 0)]
def px_t119 : List (Nat × px_K) := [(0, .iload_n 1, 1, 0, 0, 0), (1, .bipush 47, 2, 0, 0, 0), (3, .if_icmp .ne 47, 3, 0, 0, 0), (6, .aload_n 0, 1, 0, 0, 0), (7, .getfield 109, 3, 9, 2, 0), (10, .iconst 2, 1, 0, 0, 0), (11, .if_icmp .ge 39, 3, 0, 0, 0), (14, .aload_n 0, 1, 0, 0, 0), (15, .dup, 1, 0, 0, 0), (16, .getfield 109, 3, 9, 2, 0), (19, .iconst 1, 1, 0, 0, 0), (20, .iadd, 1, 0, 0, 0), (21, .putfield 109, 3, 9, 2, 0), (24, .aload_n 0, 1, 0, 0, 0), (25, .getfield 13, 3, 9, 10, 0), (28, .aload_n 0, 1, 0, 0, 0), (29, .getfield 109, 3, 9, 2, 0), (32, .iconst 0, 1, 0, 0, 0), (33, .iastore, 1, 0, 0, 0), (34, .aload_n 0, 1, 0, 0, 0), (35, .getfield 16, 3, 9, 11, 0), (38, .aload_n 0, 1, 0, 0, 0), (39, .getfield 109, 3, 9, 2, 0), (42, .iconst 0, 1, 0, 0, 0), (43, .iastore, 1, 0, 0, 0), (44, .aload_n 0, 1, 0, 0, 0), (45, .invokevirtual 125, 3, 114, 0, 0), (48, .iconst 1, 1, 0, 0, 0), (49, .ireturn, 1, 0, 0, 0), (50, .iload_n 1, 1, 0, 0, 0), (51, .invokestatic 128, 3, 113, 1, 0), (54, .iconst (-1), 1, 0, 0, 0), (55, .if_icmp .eq 11, 3, 0, 0, 0), (58, .aload_n 0, 1, 0, 0, 0), (59, .getfield 86, 3, 9, 4, 0), (62, .iconst 3, 1, 0, 0, 0), (63, .if_icmp .ne 5, 3, 0, 0, 0), (66, .iconst 0, 1, 0, 0, 0), (67, .ireturn, 1, 0, 0, 0), (68, .aload_n 0, 1, 0, 0, 0), (69, .getfield 22, 3, 9, 13, 0), (72, .bipush 15, 2, 0, 0, 0), (74, .aload_n 0, 1, 0, 0, 0), (75, .getfield 109, 3, 9, 2, 0), (78, .imul, 1, 0, 0, 0), (79, .iconst 5, 1, 0, 0, 0), (80, .aload_n 0, 1, 0, 0, 0), (81, .getfield 86, 3, 9, 4, 0), (84, .imul, 1, 0, 0, 0), (85, .iadd, 1, 0, 0, 0), (86, .iload_n 1, 1, 0, 0, 0), (87, .invokestatic 128, 3, 113, 1, 0), (90, .iastore, 1, 0, 0, 0), (91, .aload_n 0, 1, 0, 0, 0), (92, .iconst 1, 1, 0, 0, 0), (93, .putfield 93, 3, 9, 6, 0), (96, .iconst 1, 1, 0, 0, 0), (97, .ireturn, 1, 0, 0, 0)]
def px_t120 : List (Nat × px_K) := [(0, .bipush 15, 2, 0, 0, 0), (2, .aload_n 0, 1, 0, 0, 0), (3, .getfield 109, 3, 9, 2, 0), (6, .imul, 1, 0, 0, 0), (7, .iconst 5, 1, 0, 0, 0), (8, .aload_n 0, 1, 0, 0, 0), (9, .getfield 86, 3, 9, 4, 0), (12, .imul, 1, 0, 0, 0), (13, .iadd, 1, 0, 0, 0), (14, .aload_n 0, 1, 0, 0, 0), (15, .getfield 93, 3, 9, 6, 0), (18, .iadd, 1, 0, 0, 0), (19, .istore_n 2, 1, 0, 0, 0), (20, .aload_n 0, 1, 0, 0, 0), (21, .getfield 22, 3, 9, 13, 0), (24, .iload_n 2, 1, 0, 0, 0), (25, .iload_n 1, 1, 0, 0, 0), (26, .bipush 48, 2, 0, 0, 0), (28, .isub, 1, 0, 0, 0), (29, .iastore, 1, 0, 0, 0), (30, .iload_n 1, 1, 0, 0, 0), (31, .i2l, 1, 0, 0, 0), (32, .ldc2_w 119, 3, 0, 0, 48), (35, .aload_n 0, 1, 0, 0, 0), (36, .getfield 93, 3, 9, 6, 0), (39, .iconst 3, 1, 0, 0, 0), (40, .if_icmp .ne 9, 3, 0, 0, 0), (43, .ldc2_w 131, 3, 0, 0, 52), (46, .goto 6, 3, 0, 0, 0), (49, .ldc2_w 117, 3, 0, 0, 57), (52, .invokestatic 76, 3, 110, 3, 0), (55, .ifCond .eq 32, 3, 0, 0, 0), (58, .aload_n 0, 1, 0, 0, 0), (59, .getfield 93, 3, 9, 6, 0), (62, .iconst 2, 1, 0, 0, 0), (63, .if_icmp .ne 20, 3, 0, 0, 0), (66, .aload_n 0, 1, 0, 0, 0), (67, .getfield 22, 3, 9, 13, 0), (70, .iload_n 2, 1, 0, 0, 0), (71, .iaload, 1, 0, 0, 0), (72, .aload_n 0, 1, 0, 0, 0), (73, .getfield 22, 3, 9, 13, 0), (76, .iload_n 2, 1, 0, 0, 0), (77, .iconst 1, 1, 0, 0, 0), (78, .isub, 1, 0, 0, 0), (79, .iaload, 1, 0, 0, 0), (80, .if_icmp .lt 7, 3, 0, 0, 0), (83, .iconst 1, 1, 0, 0, 0), (84, .goto 4, 3, 0, 0, 0), (87, .iconst 0, 1, 0, 0, 0), (88, .istore_n 3, 1, 0, 0, 0), (89, .aload_n 0, 1, 0, 0, 0), (90, .dup, 1, 0, 0, 0), (91, .getfield 93, 3, 9, 6, 0), (94, .iconst 1, 1, 0, 0, 0), (95, .iadd, 1, 0, 0, 0), (96, .putfield 93, 3, 9, 6, 0), (99, .aload_n 0, 1, 0, 0, 0), (100, .getfield 93, 3, 9, 6, 0), (103, .iconst 5, 1, 0, 0, 0), (104, .if_icmp .ne 31, 3, 0, 0, 0), (107, .aload_n 0, 1, 0, 0, 0), (108, .iconst 0, 1, 0, 0, 0), (109, .putfield 93, 3, 9, 6, 0), (112, .aload_n 0, 1, 0, 0, 0), (113, .dup, 1, 0, 0, 0), (114, .getfield 86, 3, 9, 4, 0), (117, .iconst 1, 1, 0, 0, 0), (118, .iadd, 1, 0, 0, 0), (119, .putfield 86, 3, 9, 4, 0), (122, .aload_n 0, 1, 0, 0, 0), (123, .getfield 16, 3, 9, 11, 0), (126, .aload_n 0, 1, 0, 0, 0), (127, .getfield 109, 3, 9, 2, 0), (130, .aload_n 0, 1, 0, 0, 0), (131, .getfield 86, 3, 9, 4, 0), (134, .iastore, 1, 0, 0, 0), (135, .iload_n 3, 1, 0, 0, 0), (136, .ireturn, 1, 0, 0, 0)]
def px_t121 : List (Nat × px_K) := [(0, .aload_n 0, 1, 0, 0, 0), (1, .getfield 7, 3, 9, 0, 0), (4, .iload_n 1, 1, 0, 0, 0), (5, .iaload, 1, 0, 0, 0), (6, .istore_n 2, 1, 0, 0, 0), (7, .aload_n 0, 1, 0, 0, 0), (8, .getfield 89, 3, 9, 5, 0), (11, .ifCond .eq 24, 3, 0, 0, 0), (14, .aload_n 0, 1, 0, 0, 0), (15, .getfield 93, 3, 9, 6, 0), (18, .ifCond .ne 11, 3, 0, 0, 0), (21, .aload_n 0, 1, 0, 0, 0), (22, .iload_n 2, 1, 0, 0, 0), (23, .invokevirtual 133, 3, 119, 1, 0), (26, .goto 8, 3, 0, 0, 0), (29, .aload_n 0, 1, 0, 0, 0), (30, .iload_n 2, 1, 0, 0, 0), (31, .invokevirtual 137, 3, 120, 1, 0), (34, .ireturn, 1, 0, 0, 0), (35, .aload_n 0, 1, 0, 0, 0), (36, .getfield 93, 3, 9, 6, 0), (39, .ifCond .ne 11, 3, 0, 0, 0), (42, .aload_n 0, 1, 0, 0, 0), (43, .iload_n 2, 1, 0, 0, 0), (44, .invokevirtual 140, 3, 117, 1, 0), (47, .goto 8, 3, 0, 0, 0), (50, .aload_n 0, 1, 0, 0, 0), (51, .iload_n 2, 1, 0, 0, 0), (52, .invokevirtual 143, 3, 118, 1, 0), (55, .ireturn, 1, 0, 0, 0)]
def px_t122 : List (Nat × px_K) := [(0, .aload_n 0, 1, 0, 0, 0), (1, .iconst 0, 1, 0, 0, 0), (2, .putfield 109, 3, 9, 2, 0), (5, .aload_n 0, 1, 0, 0, 0), (6, .getfield 13, 3, 9, 10, 0), (9, .iconst 0, 1, 0, 0, 0), (10, .iconst 0, 1, 0, 0, 0), (11, .iastore, 1, 0, 0, 0), (12, .aload_n 0, 1, 0, 0, 0), (13, .getfield 16, 3, 9, 11, 0), (16, .iconst 0, 1, 0, 0, 0), (17, .iconst 0, 1, 0, 0, 0), (18, .iastore, 1, 0, 0, 0), (19, .aload_n 0, 1, 0, 0, 0), (20, .invokevirtual 125, 3, 114, 0, 0), (23, .iconst 0, 1, 0, 0, 0), (24, .istore_n 1, 1, 0, 0, 0), (25, .iload_n 1, 1, 0, 0, 0), (26, .aload_n 0, 1, 0, 0, 0), (27, .getfield 80, 3, 9, 1, 0), (30, .if_icmp .ge 17, 3, 0, 0, 0), (33, .aload_n 0, 1, 0, 0, 0), (34, .iload_n 1, 1, 0, 0, 0), (35, .invokevirtual 146, 3, 121, 1, 0), (38, .ifCond .eq 9, 3, 0, 0, 0), (41, .iinc 1 1, 3, 0, 0, 0), (44, .goto (-19), 3, 0, 0, 0), (47, .iload_n 1, 1, 0, 0, 0), (48, .ireturn, 1, 0, 0, 0)]
def px_t123 : List (Nat × px_K) := [(0, .aload_n 0, 1, 0, 0, 0), (1, .invokevirtual 149, 3, 122, 0, 0), (4, .ireturn, 1, 0, 0, 0)]
def px_t124 : List (Nat × px_K) := [(0, .iconst 0, 1, 0, 0, 0), (1, .istore_n 2, 1, 0, 0, 0), (2, .iload_n 2, 1, 0, 0, 0), (3, .aload_n 0, 1, 0, 0, 0), (4, .arraylength, 1, 0, 0, 0), (5, .if_icmp .ge 15, 3, 0, 0, 0), (8, .aload_n 1, 1, 0, 0, 0), (9, .iload_n 2, 1, 0, 0, 0), (10, .aload_n 0, 1, 0, 0, 0), (11, .iload_n 2, 1, 0, 0, 0), (12, .iaload, 1, 0, 0, 0), (13, .iastore, 1, 0, 0, 0), (14, .iinc 2 1, 3, 0, 0, 0), (17, .goto (-15), 3, 0, 0, 0), (20, .return_, 1, 0, 0, 0)]
def px_t125 : List (Nat × px_K) := [(0, .aload_n 0, 1, 0, 0, 0), (1, .getfield 40, 3, 9, 21, 0), (4, .bipush 24, 2, 0, 0, 0), (6, .iload_n 1, 1, 0, 0, 0), (7, .imul, 1, 0, 0, 0), (8, .iconst 3, 1, 0, 0, 0), (9, .iload_n 2, 1, 0, 0, 0), (10, .imul, 1, 0, 0, 0), (11, .iadd, 1, 0, 0, 0), (12, .iaload, 1, 0, 0, 0), (13, .istore_n 3, 1, 0, 0, 0), (14, .aload_n 0, 1, 0, 0, 0), (15, .getfield 40, 3, 9, 21, 0), (18, .bipush 24, 2, 0, 0, 0), (20, .iload_n 1, 1, 0, 0, 0), (21, .imul, 1, 0, 0, 0), (22, .iconst 3, 1, 0, 0, 0), (23, .iload_n 2, 1, 0, 0, 0), (24, .imul, 1, 0, 0, 0), (25, .iadd, 1, 0, 0, 0), (26, .iconst 1, 1, 0, 0, 0), (27, .iadd, 1, 0, 0, 0), (28, .iaload, 1, 0, 0, 0), (29, .istore 4, 2, 0, 0, 0), (31, .iload_n 3, 1, 0, 0, 0), (32, .lookupswitch 193 #[(98, 129), (109, 80), (115, 44), (117, 69)], 44, 0, 0, 0), (76, .aload_n 0, 1, 0, 0, 0), (77, .getfield 46, 3, 9, 23, 0), (80, .iload 4, 2, 0, 0, 0), (82, .aload_n 0, 1, 0, 0, 0), (83, .getfield 40, 3, 9, 21, 0), (86, .bipush 24, 2, 0, 0, 0), (88, .iload_n 1, 1, 0, 0, 0), (89, .imul, 1, 0, 0, 0), (90, .iconst 3, 1, 0, 0, 0), (91, .iload_n 2, 1, 0, 0, 0), (92, .imul, 1, 0, 0, 0), (93, .iadd, 1, 0, 0, 0), (94, .iconst 2, 1, 0, 0, 0), (95, .iadd, 1, 0, 0, 0), (96, .iaload, 1, 0, 0, 0), (97, .iastore, 1, 0, 0, 0), (98, .goto 127, 3, 0, 0, 0), (101, .aload_n 0, 1, 0, 0, 0), (102, .getfield 46, 3, 9, 23, 0), (105, .iload 4, 2, 0, 0, 0), (107, .iconst (-1), 1, 0, 0, 0), (108, .iastore, 1, 0, 0, 0), (109, .goto 116, 3, 0, 0, 0), (112, .aload_n 0, 1, 0, 0, 0), (113, .dup, 1, 0, 0, 0), (114, .getfield 153, 3, 9, 24, 0), (117, .iconst 1, 1, 0, 0, 0), (118, .iadd, 1, 0, 0, 0), (119, .putfield 153, 3, 9, 24, 0), (122, .iconst 0, 1, 0, 0, 0), (123, .istore 5, 2, 0, 0, 0), (125, .iload 5, 2, 0, 0, 0), (127, .iconst 4, 1, 0, 0, 0), (128, .if_icmp .ge 30, 3, 0, 0, 0), (131, .aload_n 0, 1, 0, 0, 0), (132, .getfield 46, 3, 9, 23, 0), (135, .iconst 4, 1, 0, 0, 0), (136, .aload_n 0, 1, 0, 0, 0), (137, .getfield 153, 3, 9, 24, 0), (140, .imul, 1, 0, 0, 0), (141, .iload 5, 2, 0, 0, 0), (143, .iadd, 1, 0, 0, 0), (144, .aload_n 0, 1, 0, 0, 0), (145, .getfield 46, 3, 9, 23, 0), (148, .iload 5, 2, 0, 0, 0), (150, .iaload, 1, 0, 0, 0), (151, .iastore, 1, 0, 0, 0), (152, .iinc 5 1, 3, 0, 0, 0), (155, .goto (-30), 3, 0, 0, 0), (158, .goto 67, 3, 0, 0, 0), (161, .iconst 0, 1, 0, 0, 0), (162, .istore 5, 2, 0, 0, 0), (164, .iload 5, 2, 0, 0, 0), (166, .iconst 4, 1, 0, 0, 0), (167, .if_icmp .ge 45, 3, 0, 0, 0), (170, .aload_n 0, 1, 0, 0, 0), (171, .getfield 46, 3, 9, 23, 0), (174, .iload 5, 2, 0, 0, 0), (176, .aload_n 0, 1, 0, 0, 0), (177, .getfield 46, 3, 9, 23, 0), (180, .iconst 4, 1, 0, 0, 0), (181, .aload_n 0, 1, 0, 0, 0), (182, .getfield 153, 3, 9, 24, 0), (185, .imul, 1, 0, 0, 0), (186, .iload 5, 2, 0, 0, 0), (188, .iadd, 1, 0, 0, 0), (189, .iaload, 1, 0, 0, 0), (190, .iastore, 1, 0, 0, 0), (191, .aload_n 0, 1, 0, 0, 0), (192, .getfield 46, 3, 9, 23, 0), (195, .iconst 4, 1, 0, 0, 0), (196, .aload_n 0, 1, 0, 0, 0), (197, .getfield 153, 3, 9, 24, 0), (200, .imul, 1, 0, 0, 0), (201, .iload 5, 2, 0, 0, 0), (203, .iadd, 1, 0, 0, 0), (204, .iconst (-1), 1, 0, 0, 0), (205, .iastore, 1, 0, 0, 0), (206, .iinc 5 1, 3, 0, 0, 0), (209, .goto (-45), 3, 0, 0, 0), (212, .aload_n 0, 1, 0, 0, 0), (213, .dup, 1, 0, 0, 0), (214, .getfield 153, 3, 9, 24, 0), (217, .iconst 1, 1, 0, 0, 0), (218, .isub, 1, 0, 0, 0), (219, .putfield 153, 3, 9, 24, 0), (222, .goto 3, 3, 0, 0, 0), (225, .return_, 1, 0, 0, 0)]
def px_t126 : List (Nat × px_K) := [(0, .iconst 0, 1, 0, 0, 0), (1, .istore_n 2, 1, 0, 0, 0), (2, .iload_n 2, 1, 0, 0, 0), (3, .bipush 16, 2, 0, 0, 0), (5, .if_icmp .ge 16, 3, 0, 0, 0), (8, .aload_n 0, 1, 0, 0, 0), (9, .getfield 46, 3, 9, 23, 0), (12, .iload_n 2, 1, 0, 0, 0), (13, .iconst (-1), 1, 0, 0, 0), (14, .iastore, 1, 0, 0, 0), (15, .iinc 2 1, 3, 0, 0, 0), (18, .goto (-16), 3, 0, 0, 0), (21, .aload_n 0, 1, 0, 0, 0), (22, .iconst 0, 1, 0, 0, 0), (23, .putfield 153, 3, 9, 24, 0), (26, .iconst 0, 1, 0, 0, 0), (27, .istore_n 2, 1, 0, 0, 0), (28, .iconst 0, 1, 0, 0, 0), (29, .istore_n 3, 1, 0, 0, 0), (30, .iconst 0, 1, 0, 0, 0), (31, .istore 4, 2, 0, 0, 0), (33, .iload 4, 2, 0, 0, 0), (35, .bipush 10, 2, 0, 0, 0), (37, .if_icmp .ge 248, 3, 0, 0, 0), (40, .iconst 0, 1, 0, 0, 0), (41, .istore 5, 2, 0, 0, 0), (43, .iload_n 2, 1, 0, 0, 0), (44, .aload_n 0, 1, 0, 0, 0), (45, .getfield 34, 3, 9, 19, 0), (48, .iload_n 1, 1, 0, 0, 0), (49, .iaload, 1, 0, 0, 0), (50, .if_icmp .ge 129, 3, 0, 0, 0), (53, .iload_n 3, 1, 0, 0, 0), (54, .aload_n 0, 1, 0, 0, 0), (55, .getfield 40, 3, 9, 21, 0), (58, .bipush 24, 2, 0, 0, 0), (60, .iload_n 1, 1, 0, 0, 0), (61, .imul, 1, 0, 0, 0), (62, .iconst 3, 1, 0, 0, 0), (63, .iload_n 2, 1, 0, 0, 0), (64, .imul, 1, 0, 0, 0), (65, .iadd, 1, 0, 0, 0), (66, .iaload, 1, 0, 0, 0), (67, .bipush 43, 2, 0, 0, 0), (69, .if_icmp .ne 21, 3, 0, 0, 0), (72, .aload_n 0, 1, 0, 0, 0), (73, .getfield 40, 3, 9, 21, 0), (76, .bipush 24, 2, 0, 0, 0), (78, .iload_n 1, 1, 0, 0, 0), (79, .imul, 1, 0, 0, 0), (80, .iconst 3, 1, 0, 0, 0), (81, .iload_n 2, 1, 0, 0, 0), (82, .imul, 1, 0, 0, 0), (83, .iadd, 1, 0, 0, 0), (84, .iconst 1, 1, 0, 0, 0), (85, .iadd, 1, 0, 0, 0), (86, .iaload, 1, 0, 0, 0), (87, .goto 4, 3, 0, 0, 0), (90, .iconst 0, 1, 0, 0, 0), (91, .iadd, 1, 0, 0, 0), (92, .iload 4, 2, 0, 0, 0), (94, .if_icmp .gt 85, 3, 0, 0, 0), (97, .iload_n 3, 1, 0, 0, 0), (98, .aload_n 0, 1, 0, 0, 0), (99, .getfield 40, 3, 9, 21, 0), (102, .bipush 24, 2, 0, 0, 0), (104, .iload_n 1, 1, 0, 0, 0), (105, .imul, 1, 0, 0, 0), (106, .iconst 3, 1, 0, 0, 0), (107, .iload_n 2, 1, 0, 0, 0), (108, .imul, 1, 0, 0, 0), (109, .iadd, 1, 0, 0, 0), (110, .iaload, 1, 0, 0, 0), (111, .bipush 43, 2, 0, 0, 0), (113, .if_icmp .ne 21, 3, 0, 0, 0), (116, .aload_n 0, 1, 0, 0, 0), (117, .getfield 40, 3, 9, 21, 0), (120, .bipush 24, 2, 0, 0, 0), (122, .iload_n 1, 1, 0, 0, 0), (123, .imul, 1, 0, 0, 0), (124, .iconst 3, 1, 0, 0, 0), (125, .iload_n 2, 1, 0, 0, 0), (126, .imul, 1, 0, 0, 0), (127, .iadd, 1, 0, 0, 0), (128, .iconst 1, 1, 0, 0, 0), (129, .iadd, 1, 0, 0, 0), (130, .iaload, 1, 0, 0, 0), (131, .goto 4, 3, 0, 0, 0), (134, .iconst 0, 1, 0, 0, 0), (135, .iadd, 1, 0, 0, 0), (136, .istore_n 3, 1, 0, 0, 0), (137, .aload_n 0, 1, 0, 0, 0), (138, .iload_n 1, 1, 0, 0, 0), (139, .iload_n 2, 1, 0, 0, 0), (140, .invokevirtual 156, 3, 125, 2, 0), (143, .iload 5, 2, 0, 0, 0), (145, .ifCond .ne 21, 3, 0, 0, 0), (148, .aload_n 0, 1, 0, 0, 0), (149, .getfield 40, 3, 9, 21, 0), (152, .bipush 24, 2, 0, 0, 0), (154, .iload_n 1, 1, 0, 0, 0), (155, .imul, 1, 0, 0, 0), (156, .iconst 3, 1, 0, 0, 0), (157, .iload_n 2, 1, 0, 0, 0), (158, .imul, 1, 0, 0, 0), (159, .iadd, 1, 0, 0, 0), (160, .iaload, 1, 0, 0, 0), (161, .bipush 43, 2, 0, 0, 0), (163, .if_icmp .eq 7, 3, 0, 0, 0), (166, .iconst 1, 1, 0, 0, 0), (167, .goto 4, 3, 0, 0, 0), (170, .iconst 0, 1, 0, 0, 0), (171, .istore 5, 2, 0, 0, 0), (173, .iinc 2 1, 3, 0, 0, 0), (176, .goto (-133), 3, 0, 0, 0), (179, .iconst 0, 1, 0, 0, 0), (180, .istore 6, 2, 0, 0, 0), (182, .iload 6, 2, 0, 0, 0), (184, .iconst 4, 1, 0, 0, 0), (185, .if_icmp .ge 33, 3, 0, 0, 0), (188, .aload_n 0, 1, 0, 0, 0), (189, .getfield 25, 3, 9, 16, 0), (192, .bipush 40, 2, 0, 0, 0), (194, .iload_n 1, 1, 0, 0, 0), (195, .imul, 1, 0, 0, 0), (196, .iconst 4, 1, 0, 0, 0), (197, .iload 4, 2, 0, 0, 0), (199, .imul, 1, 0, 0, 0), (200, .iadd, 1, 0, 0, 0), (201, .iload 6, 2, 0, 0, 0), (203, .iadd, 1, 0, 0, 0), (204, .aload_n 0, 1, 0, 0, 0), (205, .getfield 46, 3, 9, 23, 0), (208, .iload 6, 2, 0, 0, 0), (210, .iaload, 1, 0, 0, 0), (211, .iastore, 1, 0, 0, 0), (212, .iinc 6 1, 3, 0, 0, 0), (215, .goto (-33), 3, 0, 0, 0), (218, .aload_n 0, 1, 0, 0, 0), (219, .getfield 28, 3, 9, 17, 0), (222, .bipush 10, 2, 0, 0, 0), (224, .iload_n 1, 1, 0, 0, 0), (225, .imul, 1, 0, 0, 0), (226, .iload 4, 2, 0, 0, 0), (228, .iadd, 1, 0, 0, 0), (229, .aload_n 0, 1, 0, 0, 0), (230, .getfield 153, 3, 9, 24, 0), (233, .iastore, 1, 0, 0, 0), (234, .aload_n 0, 1, 0, 0, 0), (235, .getfield 31, 3, 9, 18, 0), (238, .bipush 10, 2, 0, 0, 0), (240, .iload_n 1, 1, 0, 0, 0), (241, .imul, 1, 0, 0, 0), (242, .iload 4, 2, 0, 0, 0), (244, .iadd, 1, 0, 0, 0), (245, .iload 5, 2, 0, 0, 0), (247, .ifCond .eq 8, 3, 0, 0, 0), (250, .iload 4, 2, 0, 0, 0), (252, .goto 26, 3, 0, 0, 0), (255, .iload 4, 2, 0, 0, 0), (257, .ifCond .ne 7, 3, 0, 0, 0), (260, .iconst 0, 1, 0, 0, 0), (261, .goto 17, 3, 0, 0, 0), (264, .aload_n 0, 1, 0, 0, 0), (265, .getfield 31, 3, 9, 18, 0), (268, .bipush 10, 2, 0, 0, 0), (270, .iload_n 1, 1, 0, 0, 0), (271, .imul, 1, 0, 0, 0), (272, .iload 4, 2, 0, 0, 0), (274, .iadd, 1, 0, 0, 0), (275, .iconst 1, 1, 0, 0, 0), (276, .isub, 1, 0, 0, 0), (277, .iaload, 1, 0, 0, 0), (278, .iastore, 1, 0, 0, 0), (279, .iinc 4 1, 3, 0, 0, 0), (282, .goto (-249), 3, 0, 0, 0), (285, .return_, 1, 0, 0, 0)]
def px_t127 : List (Nat × px_K) := [(0, .aload_n 0, 1, 0, 0, 0), (1, .invokevirtual 149, 3, 122, 0, 0), (4, .aload_n 0, 1, 0, 0, 0), (5, .getfield 80, 3, 9, 1, 0), (8, .if_icmp .lt 17, 3, 0, 0, 0), (11, .aload_n 0, 1, 0, 0, 0), (12, .getfield 89, 3, 9, 5, 0), (15, .ifCond .eq 10, 3, 0, 0, 0), (18, .aload_n 0, 1, 0, 0, 0), (19, .getfield 93, 3, 9, 6, 0), (22, .ifCond .eq 6, 3, 0, 0, 0), (25, .bipush (-103), 2, 0, 0, 0), (27, .ireturn, 1, 0, 0, 0), (28, .aload_n 0, 1, 0, 0, 0), (29, .aload_n 0, 1, 0, 0, 0), (30, .getfield 109, 3, 9, 2, 0), (33, .iconst 1, 1, 0, 0, 0), (34, .iadd, 1, 0, 0, 0), (35, .putfield 160, 3, 9, 14, 0), (38, .aload_n 0, 1, 0, 0, 0), (39, .getfield 13, 3, 9, 10, 0), (42, .aload_n 0, 1, 0, 0, 0), (43, .getfield 34, 3, 9, 19, 0), (46, .invokestatic 163, 3, 124, 2, 0), (49, .aload_n 0, 1, 0, 0, 0), (50, .getfield 16, 3, 9, 11, 0), (53, .aload_n 0, 1, 0, 0, 0), (54, .getfield 37, 3, 9, 20, 0), (57, .invokestatic 163, 3, 124, 2, 0), (60, .aload_n 0, 1, 0, 0, 0), (61, .getfield 19, 3, 9, 12, 0), (64, .aload_n 0, 1, 0, 0, 0), (65, .getfield 40, 3, 9, 21, 0), (68, .invokestatic 163, 3, 124, 2, 0), (71, .aload_n 0, 1, 0, 0, 0), (72, .getfield 22, 3, 9, 13, 0), (75, .aload_n 0, 1, 0, 0, 0), (76, .getfield 43, 3, 9, 22, 0), (79, .invokestatic 163, 3, 124, 2, 0), (82, .iconst 0, 1, 0, 0, 0), (83, .istore_n 1, 1, 0, 0, 0), (84, .iload_n 1, 1, 0, 0, 0), (85, .bipush 110, 2, 0, 0, 0), (87, .if_icmp .ge 16, 3, 0, 0, 0), (90, .aload_n 0, 1, 0, 0, 0), (91, .getfield 49, 3, 9, 25, 0), (94, .iload_n 1, 1, 0, 0, 0), (95, .iconst 0, 1, 0, 0, 0), (96, .iastore, 1, 0, 0, 0), (97, .iinc 1 1, 3, 0, 0, 0), (100, .goto (-16), 3, 0, 0, 0), (103, .iconst 0, 1, 0, 0, 0), (104, .istore_n 1, 1, 0, 0, 0), (105, .iload_n 1, 1, 0, 0, 0), (106, .aload_n 0, 1, 0, 0, 0), (107, .getfield 160, 3, 9, 14, 0), (110, .if_icmp .ge 55, 3, 0, 0, 0), (113, .aload_n 0, 1, 0, 0, 0), (114, .iload_n 1, 1, 0, 0, 0), (115, .invokevirtual 167, 3, 126, 1, 0), (118, .iconst 0, 1, 0, 0, 0), (119, .istore_n 2, 1, 0, 0, 0), (120, .iload_n 2, 1, 0, 0, 0), (121, .aload_n 0, 1, 0, 0, 0), (122, .getfield 37, 3, 9, 20, 0), (125, .iload_n 1, 1, 0, 0, 0), (126, .iaload, 1, 0, 0, 0), (127, .if_icmp .ge 32, 3, 0, 0, 0), (130, .aload_n 0, 1, 0, 0, 0), (131, .getfield 49, 3, 9, 25, 0), (134, .iconst 3, 1, 0, 0, 0), (135, .iload_n 1, 1, 0, 0, 0), (136, .imul, 1, 0, 0, 0), (137, .iload_n 2, 1, 0, 0, 0), (138, .iadd, 1, 0, 0, 0), (139, .aload_n 0, 1, 0, 0, 0), (140, .getfield 43, 3, 9, 22, 0), (143, .bipush 15, 2, 0, 0, 0), (145, .iload_n 1, 1, 0, 0, 0), (146, .imul, 1, 0, 0, 0), (147, .iconst 5, 1, 0, 0, 0), (148, .iload_n 2, 1, 0, 0, 0), (149, .imul, 1, 0, 0, 0), (150, .iadd, 1, 0, 0, 0), (151, .iaload, 1, 0, 0, 0), (152, .iastore, 1, 0, 0, 0), (153, .iinc 2 1, 3, 0, 0, 0), (156, .goto (-36), 3, 0, 0, 0), (159, .iinc 1 1, 3, 0, 0, 0), (162, .goto (-57), 3, 0, 0, 0), (165, .aload_n 0, 1, 0, 0, 0), (166, .iconst 0, 1, 0, 0, 0), (167, .putfield 171, 3, 9, 27, 0), (170, .aload_n 0, 1, 0, 0, 0), (171, .iconst 0, 1, 0, 0, 0), (172, .putfield 174, 3, 9, 31, 0), (175, .aload_n 0, 1, 0, 0, 0), (176, .dup, 1, 0, 0, 0), (177, .getfield 177, 3, 9, 15, 0), (180, .iconst 1, 1, 0, 0, 0), (181, .iadd, 1, 0, 0, 0), (182, .putfield 177, 3, 9, 15, 0), (185, .aload_n 0, 1, 0, 0, 0), (186, .iconst 0, 1, 0, 0, 0), (187, .putfield 80, 3, 9, 1, 0), (190, .aload_n 0, 1, 0, 0, 0), (191, .getfield 160, 3, 9, 14, 0), (194, .ireturn, 1, 0, 0, 0)]
def px_t128 : List (Nat × px_K) := [(0, .aload_n 0, 1, 0, 0, 0), (1, .getfield 160, 3, 9, 14, 0), (4, .ifCond .ne 7, 3, 0, 0, 0), (7, .iconst 1, 1, 0, 0, 0), (8, .goto 4, 3, 0, 0, 0), (11, .iconst 0, 1, 0, 0, 0), (12, .ireturn, 1, 0, 0, 0)]
def px_t129 : List (Nat × px_K) := [(0, .iload_n 1, 1, 0, 0, 0), (1, .i2l, 1, 0, 0, 0), (2, .lconst 0, 1, 0, 0, 0), (3, .aload_n 0, 1, 0, 0, 0), (4, .getfield 160, 3, 9, 14, 0), (7, .iconst 1, 1, 0, 0, 0), (8, .isub, 1, 0, 0, 0), (9, .i2l, 1, 0, 0, 0), (10, .invokestatic 76, 3, 110, 3, 0), (13, .ireturn, 1, 0, 0, 0)]
def px_t130 : List (Nat × px_K) := [(0, .aload_n 0, 1, 0, 0, 0), (1, .iload_n 1, 1, 0, 0, 0), (2, .invokevirtual 180, 3, 129, 1, 0), (5, .ifCond .eq 25, 3, 0, 0, 0), (8, .iload_n 2, 1, 0, 0, 0), (9, .i2l, 1, 0, 0, 0), (10, .lconst 0, 1, 0, 0, 0), (11, .aload_n 0, 1, 0, 0, 0), (12, .getfield 37, 3, 9, 20, 0), (15, .iload_n 1, 1, 0, 0, 0), (16, .iaload, 1, 0, 0, 0), (17, .iconst 1, 1, 0, 0, 0), (18, .isub, 1, 0, 0, 0), (19, .i2l, 1, 0, 0, 0), (20, .invokestatic 76, 3, 110, 3, 0), (23, .ifCond .eq 7, 3, 0, 0, 0), (26, .iconst 1, 1, 0, 0, 0), (27, .goto 4, 3, 0, 0, 0), (30, .iconst 0, 1, 0, 0, 0), (31, .ireturn, 1, 0, 0, 0)]
def px_t131 : List (Nat × px_K) := [(0, .aload_n 0, 1, 0, 0, 0), (1, .getfield 171, 3, 9, 27, 0), (4, .bipush 30, 2, 0, 0, 0), (6, .if_icmp .ne 39, 3, 0, 0, 0), (9, .iconst 0, 1, 0, 0, 0), (10, .istore_n 1, 1, 0, 0, 0), (11, .iload_n 1, 1, 0, 0, 0), (12, .sipush 3190, 3, 0, 0, 0), (15, .if_icmp .ge 24, 3, 0, 0, 0), (18, .aload_n 0, 1, 0, 0, 0), (19, .getfield 52, 3, 9, 26, 0), (22, .iload_n 1, 1, 0, 0, 0), (23, .aload_n 0, 1, 0, 0, 0), (24, .getfield 52, 3, 9, 26, 0), (27, .iload_n 1, 1, 0, 0, 0), (28, .bipush 110, 2, 0, 0, 0), (30, .iadd, 1, 0, 0, 0), (31, .iaload, 1, 0, 0, 0), (32, .iastore, 1, 0, 0, 0), (33, .iinc 1 1, 3, 0, 0, 0), (36, .goto (-25), 3, 0, 0, 0), (39, .aload_n 0, 1, 0, 0, 0), (40, .bipush 29, 2, 0, 0, 0), (42, .putfield 171, 3, 9, 27, 0), (45, .iconst 0, 1, 0, 0, 0), (46, .istore_n 1, 1, 0, 0, 0), (47, .iload_n 1, 1, 0, 0, 0), (48, .bipush 110, 2, 0, 0, 0), (50, .if_icmp .ge 29, 3, 0, 0, 0), (53, .aload_n 0, 1, 0, 0, 0), (54, .getfield 52, 3, 9, 26, 0), (57, .bipush 110, 2, 0, 0, 0), (59, .aload_n 0, 1, 0, 0, 0), (60, .getfield 171, 3, 9, 27, 0), (63, .imul, 1, 0, 0, 0), (64, .iload_n 1, 1, 0, 0, 0), (65, .iadd, 1, 0, 0, 0), (66, .aload_n 0, 1, 0, 0, 0), (67, .getfield 49, 3, 9, 25, 0), (70, .iload_n 1, 1, 0, 0, 0), (71, .iaload, 1, 0, 0, 0), (72, .iastore, 1, 0, 0, 0), (73, .iinc 1 1, 3, 0, 0, 0), (76, .goto (-29), 3, 0, 0, 0), (79, .aload_n 0, 1, 0, 0, 0), (80, .dup, 1, 0, 0, 0), (81, .getfield 171, 3, 9, 27, 0), (84, .iconst 1, 1, 0, 0, 0), (85, .iadd, 1, 0, 0, 0), (86, .putfield 171, 3, 9, 27, 0), (89, .return_, 1, 0, 0, 0)]
def px_t132 : List (Nat × px_K) := [(0, .aload_n 0, 1, 0, 0, 0), (1, .getfield 171, 3, 9, 27, 0), (4, .ifCond .ne 6, 3, 0, 0, 0), (7, .bipush (-103), 2, 0, 0, 0), (9, .ireturn, 1, 0, 0, 0), (10, .aload_n 0, 1, 0, 0, 0), (11, .dup, 1, 0, 0, 0), (12, .getfield 171, 3, 9, 27, 0), (15, .iconst 1, 1, 0, 0, 0), (16, .isub, 1, 0, 0, 0), (17, .putfield 171, 3, 9, 27, 0), (20, .iconst 0, 1, 0, 0, 0), (21, .istore_n 1, 1, 0, 0, 0), (22, .iload_n 1, 1, 0, 0, 0), (23, .bipush 110, 2, 0, 0, 0), (25, .if_icmp .ge 29, 3, 0, 0, 0), (28, .aload_n 0, 1, 0, 0, 0), (29, .getfield 49, 3, 9, 25, 0), (32, .iload_n 1, 1, 0, 0, 0), (33, .aload_n 0, 1, 0, 0, 0), (34, .getfield 52, 3, 9, 26, 0), (37, .bipush 110, 2, 0, 0, 0), (39, .aload_n 0, 1, 0, 0, 0), (40, .getfield 171, 3, 9, 27, 0), (43, .imul, 1, 0, 0, 0), (44, .iload_n 1, 1, 0, 0, 0), (45, .iadd, 1, 0, 0, 0), (46, .iaload, 1, 0, 0, 0), (47, .iastore, 1, 0, 0, 0), (48, .iinc 1 1, 3, 0, 0, 0), (51, .goto (-29), 3, 0, 0, 0), (54, .aload_n 0, 1, 0, 0, 0), (55, .getfield 171, 3, 9, 27, 0), (58, .ireturn, 1, 0, 0, 0)]
def px_t133 : List (Nat × px_K) := [(0, .aload_n 0, 1, 0, 0, 0), (1, .getfield 49, 3, 9, 25, 0), (4, .bipush 13, 2, 0, 0, 0), (6, .iaload, 1, 0, 0, 0), (7, .ireturn, 1, 0, 0, 0)]
def px_t134 : List (Nat × px_K) := [(0, .bipush 14, 2, 0, 0, 0), (2, .bipush 8, 2, 0, 0, 0), (4, .aload_n 0, 1, 0, 0, 0), (5, .getfield 49, 3, 9, 25, 0), (8, .bipush 13, 2, 0, 0, 0), (10, .iaload, 1, 0, 0, 0), (11, .iconst 1, 1, 0, 0, 0), (12, .isub, 1, 0, 0, 0), (13, .iload_n 1, 1, 0, 0, 0), (14, .isub, 1, 0, 0, 0), (15, .imul, 1, 0, 0, 0), (16, .iadd, 1, 0, 0, 0), (17, .ireturn, 1, 0, 0, 0)]
def px_t135 : List (Nat × px_K) := [(0, .aload_n 0, 1, 0, 0, 0), (1, .getfield 49, 3, 9, 25, 0), (4, .iload_n 1, 1, 0, 0, 0), (5, .iaload, 1, 0, 0, 0), (6, .istore_n 2, 1, 0, 0, 0), (7, .iconst 0, 1, 0, 0, 0), (8, .istore_n 3, 1, 0, 0, 0), (9, .iconst 0, 1, 0, 0, 0), (10, .istore 4, 2, 0, 0, 0), (12, .iload 4, 2, 0, 0, 0), (14, .aload_n 0, 1, 0, 0, 0), (15, .getfield 34, 3, 9, 19, 0), (18, .iload_n 2, 1, 0, 0, 0), (19, .iaload, 1, 0, 0, 0), (20, .if_icmp .ge 107, 3, 0, 0, 0), (23, .bipush 24, 2, 0, 0, 0), (25, .iload_n 2, 1, 0, 0, 0), (26, .imul, 1, 0, 0, 0), (27, .iconst 3, 1, 0, 0, 0), (28, .iload 4, 2, 0, 0, 0), (30, .imul, 1, 0, 0, 0), (31, .iadd, 1, 0, 0, 0), (32, .istore 5, 2, 0, 0, 0), (34, .iload_n 3, 1, 0, 0, 0), (35, .aload_n 0, 1, 0, 0, 0), (36, .getfield 40, 3, 9, 21, 0), (39, .iload 5, 2, 0, 0, 0), (41, .iaload, 1, 0, 0, 0), (42, .bipush 43, 2, 0, 0, 0), (44, .if_icmp .ne 15, 3, 0, 0, 0), (47, .aload_n 0, 1, 0, 0, 0), (48, .getfield 40, 3, 9, 21, 0), (51, .iload 5, 2, 0, 0, 0), (53, .iconst 1, 1, 0, 0, 0), (54, .iadd, 1, 0, 0, 0), (55, .iaload, 1, 0, 0, 0), (56, .goto 4, 3, 0, 0, 0), (59, .iconst 0, 1, 0, 0, 0), (60, .iadd, 1, 0, 0, 0), (61, .istore_n 3, 1, 0, 0, 0), (62, .aload_n 0, 1, 0, 0, 0), (63, .getfield 40, 3, 9, 21, 0), (66, .iload 5, 2, 0, 0, 0), (68, .iaload, 1, 0, 0, 0), (69, .bipush 115, 2, 0, 0, 0), (71, .if_icmp .ne 50, 3, 0, 0, 0), (74, .iload_n 3, 1, 0, 0, 0), (75, .aload_n 0, 1, 0, 0, 0), (76, .getfield 49, 3, 9, 25, 0), (79, .iload_n 1, 1, 0, 0, 0), (80, .iconst 1, 1, 0, 0, 0), (81, .iadd, 1, 0, 0, 0), (82, .iaload, 1, 0, 0, 0), (83, .if_icmp .ne 38, 3, 0, 0, 0), (86, .aload_n 0, 1, 0, 0, 0), (87, .getfield 49, 3, 9, 25, 0), (90, .iload_n 1, 1, 0, 0, 0), (91, .iconst 2, 1, 0, 0, 0), (92, .iadd, 1, 0, 0, 0), (93, .aload_n 0, 1, 0, 0, 0), (94, .getfield 40, 3, 9, 21, 0), (97, .iload 5, 2, 0, 0, 0), (99, .iconst 2, 1, 0, 0, 0), (100, .iadd, 1, 0, 0, 0), (101, .iaload, 1, 0, 0, 0), (102, .iadd, 1, 0, 0, 0), (103, .aload_n 0, 1, 0, 0, 0), (104, .getfield 49, 3, 9, 25, 0), (107, .bipush 9, 2, 0, 0, 0), (109, .aload_n 0, 1, 0, 0, 0), (110, .getfield 40, 3, 9, 21, 0), (113, .iload 5, 2, 0, 0, 0), (115, .iconst 1, 1, 0, 0, 0), (116, .iadd, 1, 0, 0, 0), (117, .iaload, 1, 0, 0, 0), (118, .iadd, 1, 0, 0, 0), (119, .iaload, 1, 0, 0, 0), (120, .iastore, 1, 0, 0, 0), (121, .iinc 4 1, 3, 0, 0, 0), (124, .goto (-112), 3, 0, 0, 0), (127, .return_, 1, 0, 0, 0)]
def px_t136 : List (Nat × px_K) := [(0, .aload_n 0, 1, 0, 0, 0), (1, .getfield 49, 3, 9, 25, 0), (4, .bipush 13, 2, 0, 0, 0), (6, .dup2, 1, 0, 0, 0), (7, .iaload, 1, 0, 0, 0), (8, .iconst 1, 1, 0, 0, 0), (9, .iadd, 1, 0, 0, 0), (10, .iastore, 1, 0, 0, 0), (11, .aload_n 0, 1, 0, 0, 0), (12, .iconst 0, 1, 0, 0, 0), (13, .invokevirtual 183, 3, 134, 1, 0), (16, .istore_n 2, 1, 0, 0, 0), (17, .iconst 0, 1, 0, 0, 0), (18, .istore_n 3, 1, 0, 0, 0), (19, .iload_n 3, 1, 0, 0, 0), (20, .bipush 8, 2, 0, 0, 0), (22, .if_icmp .ge 18, 3, 0, 0, 0), (25, .aload_n 0, 1, 0, 0, 0), (26, .getfield 49, 3, 9, 25, 0), (29, .iload_n 2, 1, 0, 0, 0), (30, .iload_n 3, 1, 0, 0, 0), (31, .iadd, 1, 0, 0, 0), (32, .iconst 0, 1, 0, 0, 0), (33, .iastore, 1, 0, 0, 0), (34, .iinc 3 1, 3, 0, 0, 0), (37, .goto (-18), 3, 0, 0, 0), (40, .aload_n 0, 1, 0, 0, 0), (41, .getfield 49, 3, 9, 25, 0), (44, .iload_n 2, 1, 0, 0, 0), (45, .iload_n 1, 1, 0, 0, 0), (46, .iastore, 1, 0, 0, 0), (47, .aload_n 0, 1, 0, 0, 0), (48, .iload_n 2, 1, 0, 0, 0), (49, .invokevirtual 186, 3, 135, 1, 0), (52, .return_, 1, 0, 0, 0)]
def px_t137 : List (Nat × px_K) := [(0, .aload_n 0, 1, 0, 0, 0), (1, .iconst 0, 1, 0, 0, 0), (2, .invokevirtual 183, 3, 134, 1, 0), (5, .istore_n 2, 1, 0, 0, 0), (6, .iconst 0, 1, 0, 0, 0), (7, .istore_n 3, 1, 0, 0, 0), (8, .iload_n 3, 1, 0, 0, 0), (9, .iload_n 1, 1, 0, 0, 0), (10, .if_icmp .ge 26, 3, 0, 0, 0), (13, .aload_n 0, 1, 0, 0, 0), (14, .getfield 49, 3, 9, 25, 0), (17, .iload_n 2, 1, 0, 0, 0), (18, .iconst 1, 1, 0, 0, 0), (19, .iadd, 1, 0, 0, 0), (20, .dup2, 1, 0, 0, 0), (21, .iaload, 1, 0, 0, 0), (22, .iconst 1, 1, 0, 0, 0), (23, .iadd, 1, 0, 0, 0), (24, .iastore, 1, 0, 0, 0), (25, .aload_n 0, 1, 0, 0, 0), (26, .iload_n 2, 1, 0, 0, 0), (27, .invokevirtual 186, 3, 135, 1, 0), (30, .iinc 3 1, 3, 0, 0, 0), (33, .goto (-25), 3, 0, 0, 0), (36, .return_, 1, 0, 0, 0)]
def px_t138 : List (Nat × px_K) := [(0, .aload_n 0, 1, 0, 0, 0), (1, .iconst 0, 1, 0, 0, 0), (2, .invokevirtual 183, 3, 134, 1, 0), (5, .istore_n 1, 1, 0, 0, 0), (6, .iconst 0, 1, 0, 0, 0), (7, .istore_n 2, 1, 0, 0, 0), (8, .iload_n 2, 1, 0, 0, 0), (9, .iconst 4, 1, 0, 0, 0), (10, .if_icmp .ge 73, 3, 0, 0, 0), (13, .aload_n 0, 1, 0, 0, 0), (14, .getfield 25, 3, 9, 16, 0), (17, .bipush 40, 2, 0, 0, 0), (19, .aload_n 0, 1, 0, 0, 0), (20, .getfield 49, 3, 9, 25, 0), (23, .iload_n 1, 1, 0, 0, 0), (24, .iaload, 1, 0, 0, 0), (25, .imul, 1, 0, 0, 0), (26, .iconst 4, 1, 0, 0, 0), (27, .aload_n 0, 1, 0, 0, 0), (28, .getfield 49, 3, 9, 25, 0), (31, .iload_n 1, 1, 0, 0, 0), (32, .iconst 1, 1, 0, 0, 0), (33, .iadd, 1, 0, 0, 0), (34, .iaload, 1, 0, 0, 0), (35, .imul, 1, 0, 0, 0), (36, .iadd, 1, 0, 0, 0), (37, .iload_n 2, 1, 0, 0, 0), (38, .iadd, 1, 0, 0, 0), (39, .iaload, 1, 0, 0, 0), (40, .istore_n 3, 1, 0, 0, 0), (41, .aload_n 0, 1, 0, 0, 0), (42, .getfield 49, 3, 9, 25, 0), (45, .bipush 9, 2, 0, 0, 0), (47, .iload_n 2, 1, 0, 0, 0), (48, .iadd, 1, 0, 0, 0), (49, .iload_n 3, 1, 0, 0, 0), (50, .iconst (-1), 1, 0, 0, 0), (51, .if_icmp .ne 15, 3, 0, 0, 0), (54, .aload_n 0, 1, 0, 0, 0), (55, .getfield 49, 3, 9, 25, 0), (58, .bipush 9, 2, 0, 0, 0), (60, .iload_n 2, 1, 0, 0, 0), (61, .iadd, 1, 0, 0, 0), (62, .iaload, 1, 0, 0, 0), (63, .goto 13, 3, 0, 0, 0), (66, .aload_n 0, 1, 0, 0, 0), (67, .getfield 49, 3, 9, 25, 0), (70, .iload_n 1, 1, 0, 0, 0), (71, .iconst 2, 1, 0, 0, 0), (72, .iadd, 1, 0, 0, 0), (73, .iload_n 3, 1, 0, 0, 0), (74, .iadd, 1, 0, 0, 0), (75, .iaload, 1, 0, 0, 0), (76, .iastore, 1, 0, 0, 0), (77, .iinc 2 1, 3, 0, 0, 0), (80, .goto (-72), 3, 0, 0, 0), (83, .aload_n 0, 1, 0, 0, 0), (84, .getfield 49, 3, 9, 25, 0), (87, .bipush 13, 2, 0, 0, 0), (89, .dup2, 1, 0, 0, 0), (90, .iaload, 1, 0, 0, 0), (91, .iconst 1, 1, 0, 0, 0), (92, .isub, 1, 0, 0, 0), (93, .iastore, 1, 0, 0, 0), (94, .return_, 1, 0, 0, 0)]
def px_t139 : List (Nat × px_K) := [(0, .aload_n 0, 1, 0, 0, 0), (1, .iload_n 1, 1, 0, 0, 0), (2, .invokevirtual 180, 3, 129, 1, 0), (5, .ifCond .ne 6, 3, 0, 0, 0), (8, .bipush (-101), 2, 0, 0, 0), (10, .ireturn, 1, 0, 0, 0), (11, .aload_n 0, 1, 0, 0, 0), (12, .invokevirtual 189, 3, 133, 0, 0), (15, .bipush 8, 2, 0, 0, 0), (17, .if_icmp .ne 6, 3, 0, 0, 0), (20, .bipush (-104), 2, 0, 0, 0), (22, .ireturn, 1, 0, 0, 0), (23, .aload_n 0, 1, 0, 0, 0), (24, .invokevirtual 192, 3, 131, 0, 0), (27, .aload_n 0, 1, 0, 0, 0), (28, .iload_n 1, 1, 0, 0, 0), (29, .invokevirtual 195, 3, 136, 1, 0), (32, .aload_n 0, 1, 0, 0, 0), (33, .invokevirtual 189, 3, 133, 0, 0), (36, .ireturn, 1, 0, 0, 0)]
def px_t140 : List (Nat × px_K) := [(0, .iload_n 1, 1, 0, 0, 0), (1, .i2l, 1, 0, 0, 0), (2, .lconst 1, 1, 0, 0, 0), (3, .ldc2_w 198, 3, 0, 0, 9), (6, .invokestatic 76, 3, 110, 3, 0), (9, .ifCond .ne 6, 3, 0, 0, 0), (12, .bipush (-102), 2, 0, 0, 0), (14, .ireturn, 1, 0, 0, 0), (15, .aload_n 0, 1, 0, 0, 0), (16, .invokevirtual 189, 3, 133, 0, 0), (19, .ifCond .eq 22, 3, 0, 0, 0), (22, .aload_n 0, 1, 0, 0, 0), (23, .getfield 49, 3, 9, 25, 0), (26, .aload_n 0, 1, 0, 0, 0), (27, .iconst 0, 1, 0, 0, 0), (28, .invokevirtual 183, 3, 134, 1, 0), (31, .iconst 1, 1, 0, 0, 0), (32, .iadd, 1, 0, 0, 0), (33, .iaload, 1, 0, 0, 0), (34, .iload_n 1, 1, 0, 0, 0), (35, .iadd, 1, 0, 0, 0), (36, .bipush 9, 2, 0, 0, 0), (38, .if_icmp .le 6, 3, 0, 0, 0), (41, .bipush (-103), 2, 0, 0, 0), (43, .ireturn, 1, 0, 0, 0), (44, .aload_n 0, 1, 0, 0, 0), (45, .invokevirtual 192, 3, 131, 0, 0), (48, .aload_n 0, 1, 0, 0, 0), (49, .iload_n 1, 1, 0, 0, 0), (50, .invokevirtual 200, 3, 137, 1, 0), (53, .aload_n 0, 1, 0, 0, 0), (54, .getfield 49, 3, 9, 25, 0), (57, .aload_n 0, 1, 0, 0, 0), (58, .iconst 0, 1, 0, 0, 0), (59, .invokevirtual 183, 3, 134, 1, 0), (62, .iconst 1, 1, 0, 0, 0), (63, .iadd, 1, 0, 0, 0), (64, .iaload, 1, 0, 0, 0), (65, .ireturn, 1, 0, 0, 0)]
def px_t141 : List (Nat × px_K) := [(0, .iload_n 1, 1, 0, 0, 0), (1, .i2l, 1, 0, 0, 0), (2, .lconst 0, 1, 0, 0, 0), (3, .ldc2_w 203, 3, 0, 0, 3), (6, .invokestatic 76, 3, 110, 3, 0), (9, .ifCond .ne 6, 3, 0, 0, 0), (12, .bipush (-101), 2, 0, 0, 0), (14, .ireturn, 1, 0, 0, 0), (15, .iload_n 2, 1, 0, 0, 0), (16, .i2l, 1, 0, 0, 0), (17, .lconst 0, 1, 0, 0, 0), (18, .ldc2_w 205, 3, 0, 0, 999), (21, .invokestatic 76, 3, 110, 3, 0), (24, .ifCond .ne 6, 3, 0, 0, 0), (27, .bipush (-102), 2, 0, 0, 0), (29, .ireturn, 1, 0, 0, 0), (30, .aload_n 0, 1, 0, 0, 0), (31, .invokevirtual 207, 3, 128, 0, 0), (34, .ifCond .eq 6, 3, 0, 0, 0), (37, .bipush (-103), 2, 0, 0, 0), (39, .ireturn, 1, 0, 0, 0), (40, .aload_n 0, 1, 0, 0, 0), (41, .invokevirtual 192, 3, 131, 0, 0), (44, .aload_n 0, 1, 0, 0, 0), (45, .getfield 49, 3, 9, 25, 0), (48, .bipush 9, 2, 0, 0, 0), (50, .iload_n 1, 1, 0, 0, 0), (51, .iadd, 1, 0, 0, 0), (52, .iaload, 1, 0, 0, 0), (53, .istore_n 3, 1, 0, 0, 0), (54, .aload_n 0, 1, 0, 0, 0), (55, .getfield 49, 3, 9, 25, 0), (58, .bipush 9, 2, 0, 0, 0), (60, .iload_n 1, 1, 0, 0, 0), (61, .iadd, 1, 0, 0, 0), (62, .iload_n 2, 1, 0, 0, 0), (63, .iastore, 1, 0, 0, 0), (64, .iload_n 3, 1, 0, 0, 0), (65, .ireturn, 1, 0, 0, 0)]
def px_t142 : List (Nat × px_K) := [(0, .aload_n 0, 1, 0, 0, 0), (1, .invokevirtual 189, 3, 133, 0, 0), (4, .ifCond .ne 6, 3, 0, 0, 0), (7, .bipush (-103), 2, 0, 0, 0), (9, .ireturn, 1, 0, 0, 0), (10, .aload_n 0, 1, 0, 0, 0), (11, .invokevirtual 192, 3, 131, 0, 0), (14, .aload_n 0, 1, 0, 0, 0), (15, .invokevirtual 211, 3, 138, 0, 0), (18, .aload_n 0, 1, 0, 0, 0), (19, .invokevirtual 189, 3, 133, 0, 0), (22, .ireturn, 1, 0, 0, 0)]
def px_t143 : List (Nat × px_K) := [(0, .iload_n 0, 1, 0, 0, 0), (1, .tableswitch 42 1 3 #[27, 29, 31], 27, 0, 0, 0), (28, .iconst 1, 1, 0, 0, 0), (29, .ireturn, 1, 0, 0, 0), (30, .iconst 0, 1, 0, 0, 0), (31, .ireturn, 1, 0, 0, 0), (32, .iload_n 2, 1, 0, 0, 0), (33, .iload_n 1, 1, 0, 0, 0), (34, .if_icmp .lt 7, 3, 0, 0, 0), (37, .iconst 1, 1, 0, 0, 0), (38, .goto 4, 3, 0, 0, 0), (41, .iconst 0, 1, 0, 0, 0), (42, .ireturn, 1, 0, 0, 0), (43, .iload_n 2, 1, 0, 0, 0), (44, .iload_n 1, 1, 0, 0, 0), (45, .if_icmp .ne 7, 3, 0, 0, 0), (48, .iconst 1, 1, 0, 0, 0), (49, .goto 4, 3, 0, 0, 0), (52, .iconst 0, 1, 0, 0, 0), (53, .ireturn, 1, 0, 0, 0)]
def px_t144 : List (Nat × px_K) := [(0, .iload_n 0, 1, 0, 0, 0), (1, .iload_n 1, 1, 0, 0, 0), (2, .iload_n 2, 1, 0, 0, 0), (3, .invokestatic 214, 3, 143, 3, 0), (6, .ifCond .eq 7, 3, 0, 0, 0), (9, .iconst 1, 1, 0, 0, 0), (10, .goto 18, 3, 0, 0, 0), (13, .iload_n 0, 1, 0, 0, 0), (14, .iconst 2, 1, 0, 0, 0), (15, .if_icmp .eq 8, 3, 0, 0, 0), (18, .iload_n 0, 1, 0, 0, 0), (19, .iconst 4, 1, 0, 0, 0), (20, .if_icmp .ne 7, 3, 0, 0, 0), (23, .iconst 2, 1, 0, 0, 0), (24, .goto 4, 3, 0, 0, 0), (27, .iconst 0, 1, 0, 0, 0), (28, .ireturn, 1, 0, 0, 0)]
def px_t145 : List (Nat × px_K) := [(0, .bipush 15, 2, 0, 0, 0), (2, .iload_n 1, 1, 0, 0, 0), (3, .imul, 1, 0, 0, 0), (4, .iconst 5, 1, 0, 0, 0), (5, .iload_n 2, 1, 0, 0, 0), (6, .imul, 1, 0, 0, 0), (7, .iadd, 1, 0, 0, 0), (8, .istore 5, 2, 0, 0, 0), (10, .iload_n 3, 1, 0, 0, 0), (11, .i2l, 1, 0, 0, 0), (12, .aload_n 0, 1, 0, 0, 0), (13, .getfield 43, 3, 9, 22, 0), (16, .iload 5, 2, 0, 0, 0), (18, .iconst 1, 1, 0, 0, 0), (19, .iadd, 1, 0, 0, 0), (20, .iaload, 1, 0, 0, 0), (21, .i2l, 1, 0, 0, 0), (22, .aload_n 0, 1, 0, 0, 0), (23, .getfield 43, 3, 9, 22, 0), (26, .iload 5, 2, 0, 0, 0), (28, .iconst 2, 1, 0, 0, 0), (29, .iadd, 1, 0, 0, 0), (30, .iaload, 1, 0, 0, 0), (31, .i2l, 1, 0, 0, 0), (32, .invokestatic 76, 3, 110, 3, 0), (35, .ifCond .eq 30, 3, 0, 0, 0), (38, .aload_n 0, 1, 0, 0, 0), (39, .getfield 49, 3, 9, 25, 0), (42, .iconst 3, 1, 0, 0, 0), (43, .iload_n 1, 1, 0, 0, 0), (44, .imul, 1, 0, 0, 0), (45, .iload_n 2, 1, 0, 0, 0), (46, .iadd, 1, 0, 0, 0), (47, .iaload, 1, 0, 0, 0), (48, .aload_n 0, 1, 0, 0, 0), (49, .getfield 43, 3, 9, 22, 0), (52, .iload 5, 2, 0, 0, 0), (54, .iconst 3, 1, 0, 0, 0), (55, .iadd, 1, 0, 0, 0), (56, .iaload, 1, 0, 0, 0), (57, .iload 4, 2, 0, 0, 0), (59, .invokestatic 218, 3, 144, 3, 0), (62, .goto 4, 3, 0, 0, 0), (65, .iconst 0, 1, 0, 0, 0), (66, .ireturn, 1, 0, 0, 0)]
def px_t146 : List (Nat × px_K) := [(0, .aload_n 0, 1, 0, 0, 0), (1, .iconst (-1), 1, 0, 0, 0), (2, .putfield 222, 3, 9, 28, 0), (5, .aload_n 0, 1, 0, 0, 0), (6, .iconst (-1), 1, 0, 0, 0), (7, .putfield 225, 3, 9, 29, 0), (10, .aload_n 0, 1, 0, 0, 0), (11, .iconst 0, 1, 0, 0, 0), (12, .putfield 228, 3, 9, 30, 0), (15, .iconst 0, 1, 0, 0, 0), (16, .istore_n 2, 1, 0, 0, 0), (17, .iload_n 2, 1, 0, 0, 0), (18, .aload_n 0, 1, 0, 0, 0), (19, .invokevirtual 189, 3, 133, 0, 0), (22, .if_icmp .ge 116, 3, 0, 0, 0), (25, .aload_n 0, 1, 0, 0, 0), (26, .getfield 222, 3, 9, 28, 0), (29, .iconst (-1), 1, 0, 0, 0), (30, .if_icmp .ne 108, 3, 0, 0, 0), (33, .aload_n 0, 1, 0, 0, 0), (34, .iload_n 2, 1, 0, 0, 0), (35, .invokevirtual 183, 3, 134, 1, 0), (38, .istore_n 3, 1, 0, 0, 0), (39, .iconst 0, 1, 0, 0, 0), (40, .istore 4, 2, 0, 0, 0), (42, .iload 4, 2, 0, 0, 0), (44, .aload_n 0, 1, 0, 0, 0), (45, .getfield 37, 3, 9, 20, 0), (48, .aload_n 0, 1, 0, 0, 0), (49, .getfield 49, 3, 9, 25, 0), (52, .iload_n 3, 1, 0, 0, 0), (53, .iaload, 1, 0, 0, 0), (54, .iaload, 1, 0, 0, 0), (55, .if_icmp .ge 77, 3, 0, 0, 0), (58, .aload_n 0, 1, 0, 0, 0), (59, .getfield 222, 3, 9, 28, 0), (62, .iconst (-1), 1, 0, 0, 0), (63, .if_icmp .ne 69, 3, 0, 0, 0), (66, .aload_n 0, 1, 0, 0, 0), (67, .aload_n 0, 1, 0, 0, 0), (68, .getfield 49, 3, 9, 25, 0), (71, .iload_n 3, 1, 0, 0, 0), (72, .iaload, 1, 0, 0, 0), (73, .iload 4, 2, 0, 0, 0), (75, .aload_n 0, 1, 0, 0, 0), (76, .getfield 49, 3, 9, 25, 0), (79, .iload_n 3, 1, 0, 0, 0), (80, .iconst 1, 1, 0, 0, 0), (81, .iadd, 1, 0, 0, 0), (82, .iaload, 1, 0, 0, 0), (83, .iload_n 1, 1, 0, 0, 0), (84, .invokevirtual 231, 3, 145, 4, 0), (87, .istore 5, 2, 0, 0, 0), (89, .aload_n 0, 1, 0, 0, 0), (90, .dup, 1, 0, 0, 0), (91, .getfield 228, 3, 9, 30, 0), (94, .iload 5, 2, 0, 0, 0), (96, .iconst 2, 1, 0, 0, 0), (97, .if_icmp .ne 7, 3, 0, 0, 0), (100, .iconst 1, 1, 0, 0, 0), (101, .goto 4, 3, 0, 0, 0), (104, .iconst 0, 1, 0, 0, 0), (105, .iadd, 1, 0, 0, 0), (106, .putfield 228, 3, 9, 30, 0), (109, .iload 5, 2, 0, 0, 0), (111, .iconst 1, 1, 0, 0, 0), (112, .if_icmp .ne 14, 3, 0, 0, 0), (115, .aload_n 0, 1, 0, 0, 0), (116, .iload_n 2, 1, 0, 0, 0), (117, .putfield 222, 3, 9, 28, 0), (120, .aload_n 0, 1, 0, 0, 0), (121, .iload 4, 2, 0, 0, 0), (123, .putfield 225, 3, 9, 29, 0), (126, .iinc 4 1, 3, 0, 0, 0), (129, .goto (-87), 3, 0, 0, 0), (132, .iinc 2 1, 3, 0, 0, 0), (135, .goto (-118), 3, 0, 0, 0), (138, .return_, 1, 0, 0, 0)]
def px_t147 : List (Nat × px_K) := [(0, .aload_n 0, 1, 0, 0, 0), (1, .iload_n 1, 1, 0, 0, 0), (2, .invokevirtual 235, 3, 146, 1, 0), (5, .aload_n 0, 1, 0, 0, 0), (6, .getfield 222, 3, 9, 28, 0), (9, .iconst (-1), 1, 0, 0, 0), (10, .if_icmp .ne 7, 3, 0, 0, 0), (13, .iconst (-1), 1, 0, 0, 0), (14, .goto 30, 3, 0, 0, 0), (17, .iload_n 2, 1, 0, 0, 0), (18, .ifCond .ne 10, 3, 0, 0, 0), (21, .aload_n 0, 1, 0, 0, 0), (22, .getfield 222, 3, 9, 28, 0), (25, .goto 19, 3, 0, 0, 0), (28, .iload_n 2, 1, 0, 0, 0), (29, .iconst 1, 1, 0, 0, 0), (30, .if_icmp .ne 10, 3, 0, 0, 0), (33, .aload_n 0, 1, 0, 0, 0), (34, .getfield 225, 3, 9, 29, 0), (37, .goto 7, 3, 0, 0, 0), (40, .aload_n 0, 1, 0, 0, 0), (41, .getfield 228, 3, 9, 30, 0), (44, .ireturn, 1, 0, 0, 0)]
def px_t148 : List (Nat × px_K) := [(0, .iload_n 1, 1, 0, 0, 0), (1, .i2l, 1, 0, 0, 0), (2, .lconst 0, 1, 0, 0, 0), (3, .ldc2_w 238, 3, 0, 0, 4), (6, .invokestatic 76, 3, 110, 3, 0), (9, .ifCond .eq 15, 3, 0, 0, 0), (12, .iload_n 2, 1, 0, 0, 0), (13, .i2l, 1, 0, 0, 0), (14, .lconst 0, 1, 0, 0, 0), (15, .ldc2_w 240, 3, 0, 0, 2), (18, .invokestatic 76, 3, 110, 3, 0), (21, .ifCond .ne 6, 3, 0, 0, 0), (24, .bipush (-102), 2, 0, 0, 0), (26, .ireturn, 1, 0, 0, 0), (27, .aload_n 0, 1, 0, 0, 0), (28, .invokevirtual 207, 3, 128, 0, 0), (31, .ifCond .eq 8, 3, 0, 0, 0), (34, .bipush (-103), 2, 0, 0, 0), (36, .goto 9, 3, 0, 0, 0), (39, .aload_n 0, 1, 0, 0, 0), (40, .iload_n 1, 1, 0, 0, 0), (41, .iload_n 2, 1, 0, 0, 0), (42, .invokevirtual 242, 3, 147, 2, 0), (45, .ireturn, 1, 0, 0, 0)]
def px_t149 : List (Nat × px_K) := [(0, .aload_n 0, 1, 0, 0, 0), (1, .iconst 0, 1, 0, 0, 0), (2, .invokevirtual 183, 3, 134, 1, 0), (5, .istore_n 3, 1, 0, 0, 0), (6, .iconst 0, 1, 0, 0, 0), (7, .istore 4, 2, 0, 0, 0), (9, .iload 4, 2, 0, 0, 0), (11, .iload_n 2, 1, 0, 0, 0), (12, .if_icmp .ge 72, 3, 0, 0, 0), (15, .aload_n 0, 1, 0, 0, 0), (16, .aload_n 0, 1, 0, 0, 0), (17, .getfield 49, 3, 9, 25, 0), (20, .iload_n 3, 1, 0, 0, 0), (21, .iaload, 1, 0, 0, 0), (22, .iload 4, 2, 0, 0, 0), (24, .aload_n 0, 1, 0, 0, 0), (25, .getfield 49, 3, 9, 25, 0), (28, .iload_n 3, 1, 0, 0, 0), (29, .iconst 1, 1, 0, 0, 0), (30, .iadd, 1, 0, 0, 0), (31, .iaload, 1, 0, 0, 0), (32, .iload_n 1, 1, 0, 0, 0), (33, .invokevirtual 231, 3, 145, 4, 0), (36, .iconst 2, 1, 0, 0, 0), (37, .if_icmp .ne 41, 3, 0, 0, 0), (40, .aload_n 0, 1, 0, 0, 0), (41, .getfield 49, 3, 9, 25, 0), (44, .bipush 79, 2, 0, 0, 0), (46, .aload_n 0, 1, 0, 0, 0), (47, .getfield 49, 3, 9, 25, 0), (50, .bipush 78, 2, 0, 0, 0), (52, .iaload, 1, 0, 0, 0), (53, .iadd, 1, 0, 0, 0), (54, .bipush 10, 2, 0, 0, 0), (56, .aload_n 0, 1, 0, 0, 0), (57, .getfield 49, 3, 9, 25, 0), (60, .iload_n 3, 1, 0, 0, 0), (61, .iaload, 1, 0, 0, 0), (62, .imul, 1, 0, 0, 0), (63, .iload 4, 2, 0, 0, 0), (65, .iadd, 1, 0, 0, 0), (66, .iastore, 1, 0, 0, 0), (67, .aload_n 0, 1, 0, 0, 0), (68, .getfield 49, 3, 9, 25, 0), (71, .bipush 78, 2, 0, 0, 0), (73, .dup2, 1, 0, 0, 0), (74, .iaload, 1, 0, 0, 0), (75, .iconst 1, 1, 0, 0, 0), (76, .iadd, 1, 0, 0, 0), (77, .iastore, 1, 0, 0, 0), (78, .iinc 4 1, 3, 0, 0, 0), (81, .goto (-72), 3, 0, 0, 0), (84, .return_, 1, 0, 0, 0)]
def px_t150 : List (Nat × px_K) := [(0, .aload_n 0, 1, 0, 0, 0), (1, .getfield 222, 3, 9, 28, 0), (4, .istore_n 2, 1, 0, 0, 0), (5, .aload_n 0, 1, 0, 0, 0), (6, .getfield 49, 3, 9, 25, 0), (9, .bipush 78, 2, 0, 0, 0), (11, .iconst 0, 1, 0, 0, 0), (12, .iastore, 1, 0, 0, 0), (13, .iconst 0, 1, 0, 0, 0), (14, .istore_n 3, 1, 0, 0, 0), (15, .iload_n 3, 1, 0, 0, 0), (16, .iload_n 2, 1, 0, 0, 0), (17, .if_icmp .ge 33, 3, 0, 0, 0), (20, .aload_n 0, 1, 0, 0, 0), (21, .iload_n 1, 1, 0, 0, 0), (22, .aload_n 0, 1, 0, 0, 0), (23, .getfield 37, 3, 9, 20, 0), (26, .aload_n 0, 1, 0, 0, 0), (27, .getfield 49, 3, 9, 25, 0), (30, .aload_n 0, 1, 0, 0, 0), (31, .iconst 0, 1, 0, 0, 0), (32, .invokevirtual 183, 3, 134, 1, 0), (35, .iaload, 1, 0, 0, 0), (36, .iaload, 1, 0, 0, 0), (37, .invokevirtual 246, 3, 149, 2, 0), (40, .aload_n 0, 1, 0, 0, 0), (41, .invokevirtual 211, 3, 138, 0, 0), (44, .iinc 3 1, 3, 0, 0, 0), (47, .goto (-32), 3, 0, 0, 0), (50, .aload_n 0, 1, 0, 0, 0), (51, .iload_n 1, 1, 0, 0, 0), (52, .aload_n 0, 1, 0, 0, 0), (53, .getfield 225, 3, 9, 29, 0), (56, .invokevirtual 246, 3, 149, 2, 0), (59, .aload_n 0, 1, 0, 0, 0), (60, .iconst 0, 1, 0, 0, 0), (61, .invokevirtual 183, 3, 134, 1, 0), (64, .istore_n 3, 1, 0, 0, 0), (65, .aload_n 0, 1, 0, 0, 0), (66, .getfield 49, 3, 9, 25, 0), (69, .iload_n 3, 1, 0, 0, 0), (70, .iconst 1, 1, 0, 0, 0), (71, .iadd, 1, 0, 0, 0), (72, .aload_n 0, 1, 0, 0, 0), (73, .getfield 43, 3, 9, 22, 0), (76, .bipush 15, 2, 0, 0, 0), (78, .aload_n 0, 1, 0, 0, 0), (79, .getfield 49, 3, 9, 25, 0), (82, .iload_n 3, 1, 0, 0, 0), (83, .iaload, 1, 0, 0, 0), (84, .imul, 1, 0, 0, 0), (85, .iconst 5, 1, 0, 0, 0), (86, .aload_n 0, 1, 0, 0, 0), (87, .getfield 225, 3, 9, 29, 0), (90, .imul, 1, 0, 0, 0), (91, .iadd, 1, 0, 0, 0), (92, .iconst 4, 1, 0, 0, 0), (93, .iadd, 1, 0, 0, 0), (94, .iaload, 1, 0, 0, 0), (95, .iastore, 1, 0, 0, 0), (96, .return_, 1, 0, 0, 0)]
def px_t151 : List (Nat × px_K) := [(0, .iload_n 1, 1, 0, 0, 0), (1, .i2l, 1, 0, 0, 0), (2, .lconst 0, 1, 0, 0, 0), (3, .ldc2_w 238, 3, 0, 0, 4), (6, .invokestatic 76, 3, 110, 3, 0), (9, .ifCond .ne 6, 3, 0, 0, 0), (12, .bipush (-102), 2, 0, 0, 0), (14, .ireturn, 1, 0, 0, 0), (15, .aload_n 0, 1, 0, 0, 0), (16, .invokevirtual 207, 3, 128, 0, 0), (19, .ifCond .eq 6, 3, 0, 0, 0), (22, .bipush (-103), 2, 0, 0, 0), (24, .ireturn, 1, 0, 0, 0), (25, .aload_n 0, 1, 0, 0, 0), (26, .iload_n 1, 1, 0, 0, 0), (27, .invokevirtual 235, 3, 146, 1, 0), (30, .aload_n 0, 1, 0, 0, 0), (31, .getfield 222, 3, 9, 28, 0), (34, .iconst (-1), 1, 0, 0, 0), (35, .if_icmp .ne 5, 3, 0, 0, 0), (38, .iconst (-1), 1, 0, 0, 0), (39, .ireturn, 1, 0, 0, 0), (40, .aload_n 0, 1, 0, 0, 0), (41, .invokevirtual 192, 3, 131, 0, 0), (44, .aload_n 0, 1, 0, 0, 0), (45, .iload_n 1, 1, 0, 0, 0), (46, .invokevirtual 249, 3, 150, 1, 0), (49, .aload_n 0, 1, 0, 0, 0), (50, .getfield 222, 3, 9, 28, 0), (53, .ireturn, 1, 0, 0, 0)]
def px_t152 : List (Nat × px_K) := [(0, .iconst 0, 1, 0, 0, 0), (1, .istore_n 1, 1, 0, 0, 0), (2, .iconst 0, 1, 0, 0, 0), (3, .istore_n 2, 1, 0, 0, 0), (4, .iload_n 2, 1, 0, 0, 0), (5, .iconst 5, 1, 0, 0, 0), (6, .if_icmp .ge 29, 3, 0, 0, 0), (9, .iload_n 1, 1, 0, 0, 0), (10, .aload_n 0, 1, 0, 0, 0), (11, .iload_n 2, 1, 0, 0, 0), (12, .iconst 0, 1, 0, 0, 0), (13, .invokevirtual 242, 3, 147, 2, 0), (16, .iconst (-1), 1, 0, 0, 0), (17, .if_icmp .ne 9, 3, 0, 0, 0), (20, .iconst 1, 1, 0, 0, 0), (21, .iload_n 2, 1, 0, 0, 0), (22, .ishl, 1, 0, 0, 0), (23, .goto 4, 3, 0, 0, 0), (26, .iconst 0, 1, 0, 0, 0), (27, .ior, 1, 0, 0, 0), (28, .istore_n 1, 1, 0, 0, 0), (29, .iinc 2 1, 3, 0, 0, 0), (32, .goto (-28), 3, 0, 0, 0), (35, .iload_n 1, 1, 0, 0, 0), (36, .ireturn, 1, 0, 0, 0)]
def px_t153 : List (Nat × px_K) := [(0, .aload_n 0, 1, 0, 0, 0), (1, .invokevirtual 207, 3, 128, 0, 0), (4, .ifCond .eq 8, 3, 0, 0, 0), (7, .bipush (-103), 2, 0, 0, 0), (9, .goto 7, 3, 0, 0, 0), (12, .aload_n 0, 1, 0, 0, 0), (13, .invokevirtual 252, 3, 152, 0, 0), (16, .ireturn, 1, 0, 0, 0)]
def px_t154 : List (Nat × px_K) := [(0, .iload_n 1, 1, 0, 0, 0), (1, .iconst (-1), 1, 0, 0, 0), (2, .if_icmp .ne 11, 3, 0, 0, 0), (5, .aload_n 0, 1, 0, 0, 0), (6, .getfield 49, 3, 9, 25, 0), (9, .bipush 78, 2, 0, 0, 0), (11, .iaload, 1, 0, 0, 0), (12, .ireturn, 1, 0, 0, 0), (13, .iload_n 1, 1, 0, 0, 0), (14, .i2l, 1, 0, 0, 0), (15, .lconst 0, 1, 0, 0, 0), (16, .aload_n 0, 1, 0, 0, 0), (17, .getfield 49, 3, 9, 25, 0), (20, .bipush 78, 2, 0, 0, 0), (22, .iaload, 1, 0, 0, 0), (23, .iconst 1, 1, 0, 0, 0), (24, .isub, 1, 0, 0, 0), (25, .i2l, 1, 0, 0, 0), (26, .invokestatic 76, 3, 110, 3, 0), (29, .ifCond .eq 15, 3, 0, 0, 0), (32, .aload_n 0, 1, 0, 0, 0), (33, .getfield 49, 3, 9, 25, 0), (36, .bipush 79, 2, 0, 0, 0), (38, .iload_n 1, 1, 0, 0, 0), (39, .iadd, 1, 0, 0, 0), (40, .iaload, 1, 0, 0, 0), (41, .goto 5, 3, 0, 0, 0), (44, .bipush (-101), 2, 0, 0, 0), (46, .ireturn, 1, 0, 0, 0)]
def px_t155 : List (Nat × px_K) := [(0, .aload_n 0, 1, 0, 0, 0), (1, .iload_n 1, 1, 0, 0, 0), (2, .iload_n 2, 1, 0, 0, 0), (3, .invokevirtual 255, 3, 130, 2, 0), (6, .ifCond .ne 6, 3, 0, 0, 0), (9, .bipush (-101), 2, 0, 0, 0), (11, .ireturn, 1, 0, 0, 0), (12, .iload_n 3, 1, 0, 0, 0), (13, .i2l, 1, 0, 0, 0), (14, .lconst 0, 1, 0, 0, 0), (15, .ldc2_w 238, 3, 0, 0, 4), (18, .invokestatic 76, 3, 110, 3, 0), (21, .ifCond .ne 6, 3, 0, 0, 0), (24, .bipush (-102), 2, 0, 0, 0), (26, .ireturn, 1, 0, 0, 0), (27, .aload_n 0, 1, 0, 0, 0), (28, .invokevirtual 192, 3, 131, 0, 0), (31, .aload_n 0, 1, 0, 0, 0), (32, .getfield 49, 3, 9, 25, 0), (35, .iconst 3, 1, 0, 0, 0), (36, .iload_n 1, 1, 0, 0, 0), (37, .imul, 1, 0, 0, 0), (38, .iload_n 2, 1, 0, 0, 0), (39, .iadd, 1, 0, 0, 0), (40, .iaload, 1, 0, 0, 0), (41, .istore 4, 2, 0, 0, 0), (43, .aload_n 0, 1, 0, 0, 0), (44, .getfield 49, 3, 9, 25, 0), (47, .iconst 3, 1, 0, 0, 0), (48, .iload_n 1, 1, 0, 0, 0), (49, .imul, 1, 0, 0, 0), (50, .iload_n 2, 1, 0, 0, 0), (51, .iadd, 1, 0, 0, 0), (52, .iload_n 3, 1, 0, 0, 0), (53, .iastore, 1, 0, 0, 0), (54, .iload 4, 2, 0, 0, 0), (56, .ireturn, 1, 0, 0, 0)]
def px_t156 : List (Nat × px_K) := [(0, .iload_n 3, 1, 0, 0, 0), (1, .lookupswitch 51 #[(4, 27), (5, 39)], 27, 0, 0, 0), (28, .aload_n 0, 1, 0, 0, 0), (29, .getfield 28, 3, 9, 17, 0), (32, .bipush 10, 2, 0, 0, 0), (34, .iload_n 1, 1, 0, 0, 0), (35, .imul, 1, 0, 0, 0), (36, .iload_n 2, 1, 0, 0, 0), (37, .iadd, 1, 0, 0, 0), (38, .iaload, 1, 0, 0, 0), (39, .ireturn, 1, 0, 0, 0), (40, .aload_n 0, 1, 0, 0, 0), (41, .getfield 31, 3, 9, 18, 0), (44, .bipush 10, 2, 0, 0, 0), (46, .iload_n 1, 1, 0, 0, 0), (47, .imul, 1, 0, 0, 0), (48, .iload_n 2, 1, 0, 0, 0), (49, .iadd, 1, 0, 0, 0), (50, .iaload, 1, 0, 0, 0), (51, .ireturn, 1, 0, 0, 0), (52, .aload_n 0, 1, 0, 0, 0), (53, .getfield 25, 3, 9, 16, 0), (56, .bipush 40, 2, 0, 0, 0), (58, .iload_n 1, 1, 0, 0, 0), (59, .imul, 1, 0, 0, 0), (60, .iconst 4, 1, 0, 0, 0), (61, .iload_n 2, 1, 0, 0, 0), (62, .imul, 1, 0, 0, 0), (63, .iadd, 1, 0, 0, 0), (64, .iload_n 3, 1, 0, 0, 0), (65, .iadd, 1, 0, 0, 0), (66, .iaload, 1, 0, 0, 0), (67, .ireturn, 1, 0, 0, 0)]
def px_t157 : List (Nat × px_K) := [(0, .aload_n 0, 1, 0, 0, 0), (1, .iload_n 1, 1, 0, 0, 0), (2, .invokevirtual 180, 3, 129, 1, 0), (5, .ifCond .eq 15, 3, 0, 0, 0), (8, .iload_n 2, 1, 0, 0, 0), (9, .i2l, 1, 0, 0, 0), (10, .lconst 0, 1, 0, 0, 0), (11, .ldc2_w 198, 3, 0, 0, 9), (14, .invokestatic 76, 3, 110, 3, 0), (17, .ifCond .ne 6, 3, 0, 0, 0), (20, .bipush (-101), 2, 0, 0, 0), (22, .ireturn, 1, 0, 0, 0), (23, .iload_n 3, 1, 0, 0, 0), (24, .i2l, 1, 0, 0, 0), (25, .lconst 0, 1, 0, 0, 0), (26, .ldc2_w 259, 3, 0, 0, 5), (29, .invokestatic 76, 3, 110, 3, 0), (32, .ifCond .eq 13, 3, 0, 0, 0), (35, .aload_n 0, 1, 0, 0, 0), (36, .iload_n 1, 1, 0, 0, 0), (37, .iload_n 2, 1, 0, 0, 0), (38, .iload_n 3, 1, 0, 0, 0), (39, .invokevirtual 261, 3, 156, 3, 0), (42, .goto 5, 3, 0, 0, 0), (45, .bipush (-102), 2, 0, 0, 0), (47, .ireturn, 1, 0, 0, 0)]
def px_t158 : List (Nat × px_K) := [(0, .iload_n 3, 1, 0, 0, 0), (1, .tableswitch 84 0 6 #[43, 54, 54, 54, 54, 70, 77], 43, 0, 0, 0), (44, .aload_n 0, 1, 0, 0, 0), (45, .getfield 49, 3, 9, 25, 0), (48, .iconst 3, 1, 0, 0, 0), (49, .iload_n 1, 1, 0, 0, 0), (50, .imul, 1, 0, 0, 0), (51, .iload_n 2, 1, 0, 0, 0), (52, .iadd, 1, 0, 0, 0), (53, .iaload, 1, 0, 0, 0), (54, .ireturn, 1, 0, 0, 0), (55, .aload_n 0, 1, 0, 0, 0), (56, .getfield 43, 3, 9, 22, 0), (59, .bipush 15, 2, 0, 0, 0), (61, .iload_n 1, 1, 0, 0, 0), (62, .imul, 1, 0, 0, 0), (63, .iconst 5, 1, 0, 0, 0), (64, .iload_n 2, 1, 0, 0, 0), (65, .imul, 1, 0, 0, 0), (66, .iadd, 1, 0, 0, 0), (67, .iload_n 3, 1, 0, 0, 0), (68, .iadd, 1, 0, 0, 0), (69, .iaload, 1, 0, 0, 0), (70, .ireturn, 1, 0, 0, 0), (71, .aload_n 0, 1, 0, 0, 0), (72, .iload_n 1, 1, 0, 0, 0), (73, .iload_n 2, 1, 0, 0, 0), (74, .invokevirtual 264, 3, 168, 2, 0), (77, .ireturn, 1, 0, 0, 0), (78, .aload_n 0, 1, 0, 0, 0), (79, .iload_n 1, 1, 0, 0, 0), (80, .iload_n 2, 1, 0, 0, 0), (81, .invokevirtual 267, 3, 169, 2, 0), (84, .ireturn, 1, 0, 0, 0), (85, .bipush (-102), 2, 0, 0, 0), (87, .ireturn, 1, 0, 0, 0)]
def px_t159 : List (Nat × px_K) := [(0, .aload_n 0, 1, 0, 0, 0), (1, .iload_n 1, 1, 0, 0, 0), (2, .iload_n 2, 1, 0, 0, 0), (3, .invokevirtual 255, 3, 130, 2, 0), (6, .ifCond .eq 13, 3, 0, 0, 0), (9, .aload_n 0, 1, 0, 0, 0), (10, .iload_n 1, 1, 0, 0, 0), (11, .iload_n 2, 1, 0, 0, 0), (12, .iload_n 3, 1, 0, 0, 0), (13, .invokevirtual 270, 3, 158, 3, 0), (16, .goto 5, 3, 0, 0, 0), (19, .bipush (-101), 2, 0, 0, 0), (21, .ireturn, 1, 0, 0, 0)]
def px_t160 : List (Nat × px_K) := [(0, .aload_n 0, 1, 0, 0, 0), (1, .iload_n 1, 1, 0, 0, 0), (2, .iload_n 2, 1, 0, 0, 0), (3, .invokevirtual 255, 3, 130, 2, 0), (6, .ifCond .ne 6, 3, 0, 0, 0), (9, .bipush (-101), 2, 0, 0, 0), (11, .ireturn, 1, 0, 0, 0), (12, .iload_n 3, 1, 0, 0, 0), (13, .i2l, 1, 0, 0, 0), (14, .lconst 0, 1, 0, 0, 0), (15, .ldc2_w 238, 3, 0, 0, 4), (18, .invokestatic 76, 3, 110, 3, 0), (21, .ifCond .ne 6, 3, 0, 0, 0), (24, .bipush (-102), 2, 0, 0, 0), (26, .ireturn, 1, 0, 0, 0), (27, .aload_n 0, 1, 0, 0, 0), (28, .getfield 49, 3, 9, 25, 0), (31, .iconst 3, 1, 0, 0, 0), (32, .iload_n 1, 1, 0, 0, 0), (33, .imul, 1, 0, 0, 0), (34, .iload_n 2, 1, 0, 0, 0), (35, .iadd, 1, 0, 0, 0), (36, .iaload, 1, 0, 0, 0), (37, .istore 4, 2, 0, 0, 0), (39, .iload_n 3, 1, 0, 0, 0), (40, .ifCond .eq 20, 3, 0, 0, 0), (43, .iload_n 3, 1, 0, 0, 0), (44, .iload 4, 2, 0, 0, 0), (46, .if_icmp .eq 14, 3, 0, 0, 0), (49, .iload_n 3, 1, 0, 0, 0), (50, .iconst 2, 1, 0, 0, 0), (51, .if_icmp .ne 13, 3, 0, 0, 0), (54, .iload 4, 2, 0, 0, 0), (56, .iconst 4, 1, 0, 0, 0), (57, .if_icmp .ne 7, 3, 0, 0, 0), (60, .iload_n 2, 1, 0, 0, 0), (61, .goto 4, 3, 0, 0, 0), (64, .iconst (-1), 1, 0, 0, 0), (65, .ireturn, 1, 0, 0, 0)]
def px_t161 : List (Nat × px_K) := [(0, .aload_n 0, 1, 0, 0, 0), (1, .getfield 49, 3, 9, 25, 0), (4, .bipush 9, 2, 0, 0, 0), (6, .iload_n 2, 1, 0, 0, 0), (7, .iadd, 1, 0, 0, 0), (8, .iaload, 1, 0, 0, 0), (9, .istore_n 3, 1, 0, 0, 0), (10, .iconst 0, 1, 0, 0, 0), (11, .istore 4, 2, 0, 0, 0), (13, .iload 4, 2, 0, 0, 0), (15, .iload_n 1, 1, 0, 0, 0), (16, .if_icmp .gt 71, 3, 0, 0, 0), (19, .aload_n 0, 1, 0, 0, 0), (20, .iload 4, 2, 0, 0, 0), (22, .invokevirtual 183, 3, 134, 1, 0), (25, .istore 5, 2, 0, 0, 0), (27, .aload_n 0, 1, 0, 0, 0), (28, .getfield 25, 3, 9, 16, 0), (31, .bipush 40, 2, 0, 0, 0), (33, .aload_n 0, 1, 0, 0, 0), (34, .getfield 49, 3, 9, 25, 0), (37, .iload 5, 2, 0, 0, 0), (39, .iaload, 1, 0, 0, 0), (40, .imul, 1, 0, 0, 0), (41, .iconst 4, 1, 0, 0, 0), (42, .aload_n 0, 1, 0, 0, 0), (43, .getfield 49, 3, 9, 25, 0), (46, .iload 5, 2, 0, 0, 0), (48, .iconst 1, 1, 0, 0, 0), (49, .iadd, 1, 0, 0, 0), (50, .iaload, 1, 0, 0, 0), (51, .imul, 1, 0, 0, 0), (52, .iadd, 1, 0, 0, 0), (53, .iload_n 2, 1, 0, 0, 0), (54, .iadd, 1, 0, 0, 0), (55, .iaload, 1, 0, 0, 0), (56, .istore 6, 2, 0, 0, 0), (58, .iload 6, 2, 0, 0, 0), (60, .iconst (-1), 1, 0, 0, 0), (61, .if_icmp .ne 7, 3, 0, 0, 0), (64, .iload_n 3, 1, 0, 0, 0), (65, .goto 15, 3, 0, 0, 0), (68, .aload_n 0, 1, 0, 0, 0), (69, .getfield 49, 3, 9, 25, 0), (72, .iload 5, 2, 0, 0, 0), (74, .iconst 2, 1, 0, 0, 0), (75, .iadd, 1, 0, 0, 0), (76, .iload 6, 2, 0, 0, 0), (78, .iadd, 1, 0, 0, 0), (79, .iaload, 1, 0, 0, 0), (80, .istore_n 3, 1, 0, 0, 0), (81, .iinc 4 1, 3, 0, 0, 0), (84, .goto (-71), 3, 0, 0, 0), (87, .iload_n 3, 1, 0, 0, 0), (88, .ireturn, 1, 0, 0, 0)]
def px_t162 : List (Nat × px_K) := [(0, .iload_n 2, 1, 0, 0, 0), (1, .bipush 8, 2, 0, 0, 0), (3, .if_icmp .ge 18, 3, 0, 0, 0), (6, .aload_n 0, 1, 0, 0, 0), (7, .getfield 49, 3, 9, 25, 0), (10, .aload_n 0, 1, 0, 0, 0), (11, .iload_n 1, 1, 0, 0, 0), (12, .invokevirtual 183, 3, 134, 1, 0), (15, .iload_n 2, 1, 0, 0, 0), (16, .iadd, 1, 0, 0, 0), (17, .iaload, 1, 0, 0, 0), (18, .goto 12, 3, 0, 0, 0), (21, .aload_n 0, 1, 0, 0, 0), (22, .iload_n 1, 1, 0, 0, 0), (23, .iload_n 2, 1, 0, 0, 0), (24, .bipush 8, 2, 0, 0, 0), (26, .isub, 1, 0, 0, 0), (27, .invokevirtual 273, 3, 161, 2, 0), (30, .ireturn, 1, 0, 0, 0)]
def px_t163 : List (Nat × px_K) := [(0, .iload_n 1, 1, 0, 0, 0), (1, .i2l, 1, 0, 0, 0), (2, .lconst 0, 1, 0, 0, 0), (3, .aload_n 0, 1, 0, 0, 0), (4, .invokevirtual 189, 3, 133, 0, 0), (7, .iconst 1, 1, 0, 0, 0), (8, .isub, 1, 0, 0, 0), (9, .i2l, 1, 0, 0, 0), (10, .invokestatic 76, 3, 110, 3, 0), (13, .ifCond .ne 6, 3, 0, 0, 0), (16, .bipush (-101), 2, 0, 0, 0), (18, .ireturn, 1, 0, 0, 0), (19, .iload_n 2, 1, 0, 0, 0), (20, .i2l, 1, 0, 0, 0), (21, .lconst 0, 1, 0, 0, 0), (22, .ldc2_w 276, 3, 0, 0, 11), (25, .invokestatic 76, 3, 110, 3, 0), (28, .ifCond .eq 12, 3, 0, 0, 0), (31, .aload_n 0, 1, 0, 0, 0), (32, .iload_n 1, 1, 0, 0, 0), (33, .iload_n 2, 1, 0, 0, 0), (34, .invokevirtual 278, 3, 162, 2, 0), (37, .goto 5, 3, 0, 0, 0), (40, .bipush (-102), 2, 0, 0, 0), (42, .ireturn, 1, 0, 0, 0)]
def px_t164 : List (Nat × px_K) := [(0, .iload_n 1, 1, 0, 0, 0), (1, .i2l, 1, 0, 0, 0), (2, .lconst 0, 1, 0, 0, 0), (3, .ldc2_w 203, 3, 0, 0, 3), (6, .invokestatic 76, 3, 110, 3, 0), (9, .ifCond .eq 15, 3, 0, 0, 0), (12, .aload_n 0, 1, 0, 0, 0), (13, .getfield 49, 3, 9, 25, 0), (16, .bipush 9, 2, 0, 0, 0), (18, .iload_n 1, 1, 0, 0, 0), (19, .iadd, 1, 0, 0, 0), (20, .iaload, 1, 0, 0, 0), (21, .goto 5, 3, 0, 0, 0), (24, .bipush (-101), 2, 0, 0, 0), (26, .ireturn, 1, 0, 0, 0)]
def px_t165 : List (Nat × px_K) := [(0, .aload_n 0, 1, 0, 0, 0), (1, .iload_n 1, 1, 0, 0, 0), (2, .invokevirtual 180, 3, 129, 1, 0), (5, .ifCond .eq 11, 3, 0, 0, 0), (8, .aload_n 0, 1, 0, 0, 0), (9, .iload_n 2, 1, 0, 0, 0), (10, .invokevirtual 180, 3, 129, 1, 0), (13, .ifCond .ne 6, 3, 0, 0, 0), (16, .bipush (-101), 2, 0, 0, 0), (18, .ireturn, 1, 0, 0, 0), (19, .iconst 1, 1, 0, 0, 0), (20, .istore_n 3, 1, 0, 0, 0), (21, .iconst 0, 1, 0, 0, 0), (22, .istore 4, 2, 0, 0, 0), (24, .iload 4, 2, 0, 0, 0), (26, .bipush 40, 2, 0, 0, 0), (28, .if_icmp .ge 46, 3, 0, 0, 0), (31, .iload_n 3, 1, 0, 0, 0), (32, .ifCond .eq 34, 3, 0, 0, 0), (35, .aload_n 0, 1, 0, 0, 0), (36, .getfield 25, 3, 9, 16, 0), (39, .bipush 40, 2, 0, 0, 0), (41, .iload_n 1, 1, 0, 0, 0), (42, .imul, 1, 0, 0, 0), (43, .iload 4, 2, 0, 0, 0), (45, .iadd, 1, 0, 0, 0), (46, .iaload, 1, 0, 0, 0), (47, .aload_n 0, 1, 0, 0, 0), (48, .getfield 25, 3, 9, 16, 0), (51, .bipush 40, 2, 0, 0, 0), (53, .iload_n 2, 1, 0, 0, 0), (54, .imul, 1, 0, 0, 0), (55, .iload 4, 2, 0, 0, 0), (57, .iadd, 1, 0, 0, 0), (58, .iaload, 1, 0, 0, 0), (59, .if_icmp .ne 7, 3, 0, 0, 0), (62, .iconst 1, 1, 0, 0, 0), (63, .goto 4, 3, 0, 0, 0), (66, .iconst 0, 1, 0, 0, 0), (67, .istore_n 3, 1, 0, 0, 0), (68, .iinc 4 1, 3, 0, 0, 0), (71, .goto (-47), 3, 0, 0, 0), (74, .iload_n 3, 1, 0, 0, 0), (75, .ifCond .eq 7, 3, 0, 0, 0), (78, .iconst 1, 1, 0, 0, 0), (79, .goto 4, 3, 0, 0, 0), (82, .iconst 0, 1, 0, 0, 0), (83, .ireturn, 1, 0, 0, 0)]
def px_t166 : List (Nat × px_K) := [(0, .aload_n 0, 1, 0, 0, 0), (1, .iload_n 1, 1, 0, 0, 0), (2, .iload_n 2, 1, 0, 0, 0), (3, .invokevirtual 255, 3, 130, 2, 0), (6, .ifCond .ne 6, 3, 0, 0, 0), (9, .bipush (-101), 2, 0, 0, 0), (11, .ireturn, 1, 0, 0, 0), (12, .iload_n 3, 1, 0, 0, 0), (13, .i2l, 1, 0, 0, 0), (14, .lconst 0, 1, 0, 0, 0), (15, .ldc2_w 238, 3, 0, 0, 4), (18, .invokestatic 76, 3, 110, 3, 0), (21, .ifCond .eq 16, 3, 0, 0, 0), (24, .iload 4, 2, 0, 0, 0), (26, .i2l, 1, 0, 0, 0), (27, .lconst 0, 1, 0, 0, 0), (28, .ldc2_w 240, 3, 0, 0, 2), (31, .invokestatic 76, 3, 110, 3, 0), (34, .ifCond .ne 6, 3, 0, 0, 0), (37, .bipush (-102), 2, 0, 0, 0), (39, .ireturn, 1, 0, 0, 0), (40, .aload_n 0, 1, 0, 0, 0), (41, .getfield 174, 3, 9, 31, 0), (44, .bipush 6, 2, 0, 0, 0), (46, .if_icmp .ne 6, 3, 0, 0, 0), (49, .bipush (-104), 2, 0, 0, 0), (51, .ireturn, 1, 0, 0, 0), (52, .aload_n 0, 1, 0, 0, 0), (53, .getfield 55, 3, 9, 32, 0), (56, .iconst 4, 1, 0, 0, 0), (57, .aload_n 0, 1, 0, 0, 0), (58, .getfield 174, 3, 9, 31, 0), (61, .imul, 1, 0, 0, 0), (62, .iload_n 1, 1, 0, 0, 0), (63, .iastore, 1, 0, 0, 0), (64, .aload_n 0, 1, 0, 0, 0), (65, .getfield 55, 3, 9, 32, 0), (68, .iconst 4, 1, 0, 0, 0), (69, .aload_n 0, 1, 0, 0, 0), (70, .getfield 174, 3, 9, 31, 0), (73, .imul, 1, 0, 0, 0), (74, .iconst 1, 1, 0, 0, 0), (75, .iadd, 1, 0, 0, 0), (76, .iload_n 2, 1, 0, 0, 0), (77, .iastore, 1, 0, 0, 0), (78, .aload_n 0, 1, 0, 0, 0), (79, .getfield 55, 3, 9, 32, 0), (82, .iconst 4, 1, 0, 0, 0), (83, .aload_n 0, 1, 0, 0, 0), (84, .getfield 174, 3, 9, 31, 0), (87, .imul, 1, 0, 0, 0), (88, .iconst 2, 1, 0, 0, 0), (89, .iadd, 1, 0, 0, 0), (90, .iload_n 3, 1, 0, 0, 0), (91, .iastore, 1, 0, 0, 0), (92, .aload_n 0, 1, 0, 0, 0), (93, .getfield 55, 3, 9, 32, 0), (96, .iconst 4, 1, 0, 0, 0), (97, .aload_n 0, 1, 0, 0, 0), (98, .getfield 174, 3, 9, 31, 0), (101, .imul, 1, 0, 0, 0), (102, .iconst 3, 1, 0, 0, 0), (103, .iadd, 1, 0, 0, 0), (104, .iload 4, 2, 0, 0, 0), (106, .iastore, 1, 0, 0, 0), (107, .aload_n 0, 1, 0, 0, 0), (108, .dup, 1, 0, 0, 0), (109, .getfield 174, 3, 9, 31, 0), (112, .iconst 1, 1, 0, 0, 0), (113, .iadd, 1, 0, 0, 0), (114, .putfield 174, 3, 9, 31, 0), (117, .aload_n 0, 1, 0, 0, 0), (118, .getfield 174, 3, 9, 31, 0), (121, .ireturn, 1, 0, 0, 0)]
def px_t167 : List (Nat × px_K) := [(0, .aload_n 0, 1, 0, 0, 0), (1, .getfield 174, 3, 9, 31, 0), (4, .istore_n 1, 1, 0, 0, 0), (5, .aload_n 0, 1, 0, 0, 0), (6, .iconst 0, 1, 0, 0, 0), (7, .putfield 174, 3, 9, 31, 0), (10, .iload_n 1, 1, 0, 0, 0), (11, .ireturn, 1, 0, 0, 0)]
def px_t168 : List (Nat × px_K) := [(0, .aload_n 0, 1, 0, 0, 0), (1, .getfield 43, 3, 9, 22, 0), (4, .bipush 15, 2, 0, 0, 0), (6, .iload_n 1, 1, 0, 0, 0), (7, .imul, 1, 0, 0, 0), (8, .iconst 5, 1, 0, 0, 0), (9, .iload_n 2, 1, 0, 0, 0), (10, .imul, 1, 0, 0, 0), (11, .iadd, 1, 0, 0, 0), (12, .iconst 3, 1, 0, 0, 0), (13, .iadd, 1, 0, 0, 0), (14, .iaload, 1, 0, 0, 0), (15, .istore_n 3, 1, 0, 0, 0), (16, .iconst 0, 1, 0, 0, 0), (17, .istore 4, 2, 0, 0, 0), (19, .iconst 0, 1, 0, 0, 0), (20, .istore 5, 2, 0, 0, 0), (22, .iload 5, 2, 0, 0, 0), (24, .iconst 5, 1, 0, 0, 0), (25, .if_icmp .ge 125, 3, 0, 0, 0), (28, .iconst 1, 1, 0, 0, 0), (29, .istore 6, 2, 0, 0, 0), (31, .iconst 0, 1, 0, 0, 0), (32, .istore 7, 2, 0, 0, 0), (34, .iload 7, 2, 0, 0, 0), (36, .iconst 4, 1, 0, 0, 0), (37, .aload_n 0, 1, 0, 0, 0), (38, .getfield 174, 3, 9, 31, 0), (41, .imul, 1, 0, 0, 0), (42, .if_icmp .ge 84, 3, 0, 0, 0), (45, .aload_n 0, 1, 0, 0, 0), (46, .getfield 55, 3, 9, 32, 0), (49, .iload 7, 2, 0, 0, 0), (51, .iaload, 1, 0, 0, 0), (52, .iload_n 1, 1, 0, 0, 0), (53, .if_icmp .ne 20, 3, 0, 0, 0), (56, .aload_n 0, 1, 0, 0, 0), (57, .getfield 55, 3, 9, 32, 0), (60, .iload 7, 2, 0, 0, 0), (62, .iconst 1, 1, 0, 0, 0), (63, .iadd, 1, 0, 0, 0), (64, .iaload, 1, 0, 0, 0), (65, .iload_n 2, 1, 0, 0, 0), (66, .if_icmp .ne 7, 3, 0, 0, 0), (69, .iconst 1, 1, 0, 0, 0), (70, .goto 4, 3, 0, 0, 0), (73, .iconst 0, 1, 0, 0, 0), (74, .istore 8, 2, 0, 0, 0), (76, .iload 6, 2, 0, 0, 0), (78, .ifCond .eq 39, 3, 0, 0, 0), (81, .iload 8, 2, 0, 0, 0), (83, .ifCond .eq 30, 3, 0, 0, 0), (86, .iload 5, 2, 0, 0, 0), (88, .iload_n 3, 1, 0, 0, 0), (89, .aload_n 0, 1, 0, 0, 0), (90, .getfield 55, 3, 9, 32, 0), (93, .iload 7, 2, 0, 0, 0), (95, .iconst 2, 1, 0, 0, 0), (96, .iadd, 1, 0, 0, 0), (97, .iaload, 1, 0, 0, 0), (98, .invokestatic 218, 3, 144, 3, 0), (101, .aload_n 0, 1, 0, 0, 0), (102, .getfield 55, 3, 9, 32, 0), (105, .iload 7, 2, 0, 0, 0), (107, .iconst 3, 1, 0, 0, 0), (108, .iadd, 1, 0, 0, 0), (109, .iaload, 1, 0, 0, 0), (110, .if_icmp .ne 7, 3, 0, 0, 0), (113, .iconst 1, 1, 0, 0, 0), (114, .goto 4, 3, 0, 0, 0), (117, .iconst 0, 1, 0, 0, 0), (118, .istore 6, 2, 0, 0, 0), (120, .iinc 7 4, 3, 0, 0, 0), (123, .goto (-89), 3, 0, 0, 0), (126, .iload 4, 2, 0, 0, 0), (128, .iload 6, 2, 0, 0, 0), (130, .ifCond .eq 10, 3, 0, 0, 0), (133, .iconst 1, 1, 0, 0, 0), (134, .iload 5, 2, 0, 0, 0), (136, .ishl, 1, 0, 0, 0), (137, .goto 4, 3, 0, 0, 0), (140, .iconst 0, 1, 0, 0, 0), (141, .ior, 1, 0, 0, 0), (142, .istore 4, 2, 0, 0, 0), (144, .iinc 5 1, 3, 0, 0, 0), (147, .goto (-125), 3, 0, 0, 0), (150, .iload 4, 2, 0, 0, 0), (152, .ireturn, 1, 0, 0, 0)]
def px_t169 : List (Nat × px_K) := [(0, .aload_n 0, 1, 0, 0, 0), (1, .getfield 43, 3, 9, 22, 0), (4, .bipush 15, 2, 0, 0, 0), (6, .iload_n 1, 1, 0, 0, 0), (7, .imul, 1, 0, 0, 0), (8, .iconst 5, 1, 0, 0, 0), (9, .iload_n 2, 1, 0, 0, 0), (10, .imul, 1, 0, 0, 0), (11, .iadd, 1, 0, 0, 0), (12, .iconst 3, 1, 0, 0, 0), (13, .iadd, 1, 0, 0, 0), (14, .iaload, 1, 0, 0, 0), (15, .istore_n 3, 1, 0, 0, 0), (16, .aload_n 0, 1, 0, 0, 0), (17, .iload_n 1, 1, 0, 0, 0), (18, .iload_n 2, 1, 0, 0, 0), (19, .invokevirtual 264, 3, 168, 2, 0), (22, .istore 4, 2, 0, 0, 0), (24, .iconst (-1), 1, 0, 0, 0), (25, .istore 5, 2, 0, 0, 0), (27, .bipush 6, 2, 0, 0, 0), (29, .istore 6, 2, 0, 0, 0), (31, .iconst 0, 1, 0, 0, 0), (32, .istore 7, 2, 0, 0, 0), (34, .iload 7, 2, 0, 0, 0), (36, .iconst 5, 1, 0, 0, 0), (37, .if_icmp .ge 127, 3, 0, 0, 0), (40, .iload 4, 2, 0, 0, 0), (42, .ifCond .eq 122, 3, 0, 0, 0), (45, .iconst 0, 1, 0, 0, 0), (46, .istore 8, 2, 0, 0, 0), (48, .iconst 0, 1, 0, 0, 0), (49, .istore 9, 2, 0, 0, 0), (51, .iload 9, 2, 0, 0, 0), (53, .iconst 3, 1, 0, 0, 0), (54, .if_icmp .ge 72, 3, 0, 0, 0), (57, .iconst 0, 1, 0, 0, 0), (58, .istore 10, 2, 0, 0, 0), (60, .iconst 0, 1, 0, 0, 0), (61, .istore 11, 2, 0, 0, 0), (63, .iload 11, 2, 0, 0, 0), (65, .iconst 5, 1, 0, 0, 0), (66, .if_icmp .ge 38, 3, 0, 0, 0), (69, .iload 10, 2, 0, 0, 0), (71, .iload 11, 2, 0, 0, 0), (73, .iload_n 3, 1, 0, 0, 0), (74, .iload 7, 2, 0, 0, 0), (76, .invokestatic 218, 3, 144, 3, 0), (79, .iload 9, 2, 0, 0, 0), (81, .if_icmp .ne 13, 3, 0, 0, 0), (84, .iload 4, 2, 0, 0, 0), (86, .iload 11, 2, 0, 0, 0), (88, .ishr, 1, 0, 0, 0), (89, .iconst 1, 1, 0, 0, 0), (90, .iand, 1, 0, 0, 0), (91, .goto 4, 3, 0, 0, 0), (94, .iconst 0, 1, 0, 0, 0), (95, .iadd, 1, 0, 0, 0), (96, .istore 10, 2, 0, 0, 0), (98, .iinc 11 1, 3, 0, 0, 0), (101, .goto (-38), 3, 0, 0, 0), (104, .iload 10, 2, 0, 0, 0), (106, .iload 8, 2, 0, 0, 0), (108, .if_icmp .le 8, 3, 0, 0, 0), (111, .iload 10, 2, 0, 0, 0), (113, .goto 5, 3, 0, 0, 0), (116, .iload 8, 2, 0, 0, 0), (118, .istore 8, 2, 0, 0, 0), (120, .iinc 9 1, 3, 0, 0, 0), (123, .goto (-72), 3, 0, 0, 0), (126, .iload 8, 2, 0, 0, 0), (128, .iload 6, 2, 0, 0, 0), (130, .if_icmp .ge 8, 3, 0, 0, 0), (133, .iload 7, 2, 0, 0, 0), (135, .goto 5, 3, 0, 0, 0), (138, .iload 5, 2, 0, 0, 0), (140, .istore 5, 2, 0, 0, 0), (142, .iload 8, 2, 0, 0, 0), (144, .iload 6, 2, 0, 0, 0), (146, .if_icmp .ge 8, 3, 0, 0, 0), (149, .iload 8, 2, 0, 0, 0), (151, .goto 5, 3, 0, 0, 0), (154, .iload 6, 2, 0, 0, 0), (156, .istore 6, 2, 0, 0, 0), (158, .iinc 7 1, 3, 0, 0, 0), (161, .goto (-127), 3, 0, 0, 0), (164, .iload 5, 2, 0, 0, 0), (166, .ireturn, 1, 0, 0, 0)]
def px_t170 : List (Nat × px_K) := [(0, .aload_n 0, 1, 0, 0, 0), (1, .ldc2_w 281, 3, 0, 0, 1103515245), (4, .aload_n 0, 1, 0, 0, 0), (5, .getfield 283, 3, 9, 33, 0), (8, .i2l, 1, 0, 0, 0), (9, .lmul, 1, 0, 0, 0), (10, .ldc2_w 286, 3, 0, 0, 12345), (13, .ladd, 1, 0, 0, 0), (14, .ldc2_w 288, 3, 0, 0, 2147483647), (17, .land, 1, 0, 0, 0), (18, .l2i, 1, 0, 0, 0), (19, .putfield 283, 3, 9, 33, 0), (22, .aload_n 0, 1, 0, 0, 0), (23, .getfield 283, 3, 9, 33, 0), (26, .ldc_w 290, 3, 0, 0, 65536), (29, .idiv, 1, 0, 0, 0), (30, .iload_n 1, 1, 0, 0, 0), (31, .irem, 1, 0, 0, 0), (32, .ireturn, 1, 0, 0, 0)]
def px_t171 : List (Nat × px_K) := [(0, .aload_n 0, 1, 0, 0, 0), (1, .aload_n 0, 1, 0, 0, 0), (2, .getfield 160, 3, 9, 14, 0), (5, .invokevirtual 291, 3, 170, 1, 0), (8, .istore_n 1, 1, 0, 0, 0), (9, .aload_n 0, 1, 0, 0, 0), (10, .invokevirtual 189, 3, 133, 0, 0), (13, .bipush 8, 2, 0, 0, 0), (15, .if_icmp .ge 8, 3, 0, 0, 0), (18, .aload_n 0, 1, 0, 0, 0), (19, .iload_n 1, 1, 0, 0, 0), (20, .invokevirtual 195, 3, 136, 1, 0), (23, .return_, 1, 0, 0, 0)]
def px_t172 : List (Nat × px_K) := [(0, .aload_n 0, 1, 0, 0, 0), (1, .invokevirtual 189, 3, 133, 0, 0), (4, .ifCond .le 25, 3, 0, 0, 0), (7, .aload_n 0, 1, 0, 0, 0), (8, .getfield 49, 3, 9, 25, 0), (11, .aload_n 0, 1, 0, 0, 0), (12, .iconst 0, 1, 0, 0, 0), (13, .invokevirtual 183, 3, 134, 1, 0), (16, .iconst 1, 1, 0, 0, 0), (17, .iadd, 1, 0, 0, 0), (18, .iaload, 1, 0, 0, 0), (19, .bipush 9, 2, 0, 0, 0), (21, .if_icmp .ge 8, 3, 0, 0, 0), (24, .aload_n 0, 1, 0, 0, 0), (25, .iconst 1, 1, 0, 0, 0), (26, .invokevirtual 200, 3, 137, 1, 0), (29, .return_, 1, 0, 0, 0)]
def px_t173 : List (Nat × px_K) := [(0, .aload_n 0, 1, 0, 0, 0), (1, .iconst 4, 1, 0, 0, 0), (2, .invokevirtual 291, 3, 170, 1, 0), (5, .istore_n 1, 1, 0, 0, 0), (6, .aload_n 0, 1, 0, 0, 0), (7, .getfield 49, 3, 9, 25, 0), (10, .bipush 9, 2, 0, 0, 0), (12, .iload_n 1, 1, 0, 0, 0), (13, .iadd, 1, 0, 0, 0), (14, .aload_n 0, 1, 0, 0, 0), (15, .sipush 1000, 3, 0, 0, 0), (18, .invokevirtual 291, 3, 170, 1, 0), (21, .iastore, 1, 0, 0, 0), (22, .return_, 1, 0, 0, 0)]
def px_t174 : List (Nat × px_K) := [(0, .aload_n 0, 1, 0, 0, 0), (1, .iconst 5, 1, 0, 0, 0), (2, .invokevirtual 291, 3, 170, 1, 0), (5, .istore_n 1, 1, 0, 0, 0), (6, .aload_n 0, 1, 0, 0, 0), (7, .iload_n 1, 1, 0, 0, 0), (8, .invokevirtual 235, 3, 146, 1, 0), (11, .aload_n 0, 1, 0, 0, 0), (12, .getfield 222, 3, 9, 28, 0), (15, .iconst (-1), 1, 0, 0, 0), (16, .if_icmp .ne 5, 3, 0, 0, 0), (19, .iconst 0, 1, 0, 0, 0), (20, .ireturn, 1, 0, 0, 0), (21, .aload_n 0, 1, 0, 0, 0), (22, .iload_n 1, 1, 0, 0, 0), (23, .invokevirtual 249, 3, 150, 1, 0), (26, .iconst 1, 1, 0, 0, 0), (27, .ireturn, 1, 0, 0, 0)]
def px_t175 : List (Nat × px_K) := [(0, .aload_n 0, 1, 0, 0, 0), (1, .iconst 4, 1, 0, 0, 0), (2, .invokevirtual 291, 3, 170, 1, 0), (5, .tableswitch 45 0 2 #[27, 33, 39], 27, 0, 0, 0), (32, .aload_n 0, 1, 0, 0, 0), (33, .invokevirtual 294, 3, 171, 0, 0), (36, .iconst 0, 1, 0, 0, 0), (37, .ireturn, 1, 0, 0, 0), (38, .aload_n 0, 1, 0, 0, 0), (39, .invokevirtual 297, 3, 172, 0, 0), (42, .iconst 0, 1, 0, 0, 0), (43, .ireturn, 1, 0, 0, 0), (44, .aload_n 0, 1, 0, 0, 0), (45, .invokevirtual 300, 3, 173, 0, 0), (48, .iconst 0, 1, 0, 0, 0), (49, .ireturn, 1, 0, 0, 0), (50, .aload_n 0, 1, 0, 0, 0), (51, .invokevirtual 303, 3, 174, 0, 0), (54, .ireturn, 1, 0, 0, 0)]
def px_t176 : List (Nat × px_K) := [(0, .iload_n 1, 1, 0, 0, 0), (1, .i2l, 1, 0, 0, 0), (2, .lconst 1, 1, 0, 0, 0), (3, .ldc2_w 306, 3, 0, 0, 99), (6, .invokestatic 76, 3, 110, 3, 0), (9, .ifCond .eq 19, 3, 0, 0, 0), (12, .iload_n 2, 1, 0, 0, 0), (13, .ifCond .lt 15, 3, 0, 0, 0), (16, .iload_n 3, 1, 0, 0, 0), (17, .i2l, 1, 0, 0, 0), (18, .lconst 0, 1, 0, 0, 0), (19, .ldc2_w 240, 3, 0, 0, 2), (22, .invokestatic 76, 3, 110, 3, 0), (25, .ifCond .ne 6, 3, 0, 0, 0), (28, .bipush (-102), 2, 0, 0, 0), (30, .ireturn, 1, 0, 0, 0), (31, .aload_n 0, 1, 0, 0, 0), (32, .invokevirtual 207, 3, 128, 0, 0), (35, .ifCond .eq 6, 3, 0, 0, 0), (38, .bipush (-103), 2, 0, 0, 0), (40, .ireturn, 1, 0, 0, 0), (41, .aload_n 0, 1, 0, 0, 0), (42, .getfield 49, 3, 9, 25, 0), (45, .aload_n 0, 1, 0, 0, 0), (46, .getfield 58, 3, 9, 34, 0), (49, .invokestatic 163, 3, 124, 2, 0), (52, .aload_n 0, 1, 0, 0, 0), (53, .iload_n 2, 1, 0, 0, 0), (54, .putfield 283, 3, 9, 33, 0), (57, .iconst 0, 1, 0, 0, 0), (58, .istore 4, 2, 0, 0, 0), (60, .iconst 0, 1, 0, 0, 0), (61, .istore 5, 2, 0, 0, 0), (63, .iload 5, 2, 0, 0, 0), (65, .iload_n 1, 1, 0, 0, 0), (66, .if_icmp .ge 18, 3, 0, 0, 0), (69, .iload 4, 2, 0, 0, 0), (71, .aload_n 0, 1, 0, 0, 0), (72, .invokevirtual 308, 3, 175, 0, 0), (75, .iadd, 1, 0, 0, 0), (76, .istore 4, 2, 0, 0, 0), (78, .iinc 5 1, 3, 0, 0, 0), (81, .goto (-18), 3, 0, 0, 0), (84, .aload_n 0, 1, 0, 0, 0), (85, .invokevirtual 189, 3, 133, 0, 0), (88, .istore 5, 2, 0, 0, 0), (90, .aload_n 0, 1, 0, 0, 0), (91, .getfield 58, 3, 9, 34, 0), (94, .aload_n 0, 1, 0, 0, 0), (95, .getfield 49, 3, 9, 25, 0), (98, .invokestatic 163, 3, 124, 2, 0), (101, .iload_n 3, 1, 0, 0, 0), (102, .ifCond .ne 8, 3, 0, 0, 0), (105, .iload 4, 2, 0, 0, 0), (107, .goto 17, 3, 0, 0, 0), (110, .iload_n 3, 1, 0, 0, 0), (111, .iconst 1, 1, 0, 0, 0), (112, .if_icmp .ne 8, 3, 0, 0, 0), (115, .iload 5, 2, 0, 0, 0), (117, .goto 7, 3, 0, 0, 0), (120, .aload_n 0, 1, 0, 0, 0), (121, .getfield 283, 3, 9, 33, 0), (124, .ireturn, 1, 0, 0, 0)]
def px_t177 : List (Nat × px_K) := [(0, .aload_n 0, 1, 0, 0, 0), (1, .invokevirtual 207, 3, 128, 0, 0), (4, .ifCond .eq 6, 3, 0, 0, 0), (7, .bipush (-103), 2, 0, 0, 0), (9, .ireturn, 1, 0, 0, 0), (10, .aload_n 0, 1, 0, 0, 0), (11, .getfield 49, 3, 9, 25, 0), (14, .aload_n 0, 1, 0, 0, 0), (15, .getfield 61, 3, 9, 38, 0), (18, .invokestatic 163, 3, 124, 2, 0), (21, .aload_n 0, 1, 0, 0, 0), (22, .getfield 52, 3, 9, 26, 0), (25, .aload_n 0, 1, 0, 0, 0), (26, .getfield 64, 3, 9, 39, 0), (29, .invokestatic 163, 3, 124, 2, 0), (32, .aload_n 0, 1, 0, 0, 0), (33, .getfield 55, 3, 9, 32, 0), (36, .aload_n 0, 1, 0, 0, 0), (37, .getfield 67, 3, 9, 40, 0), (40, .invokestatic 163, 3, 124, 2, 0), (43, .aload_n 0, 1, 0, 0, 0), (44, .aload_n 0, 1, 0, 0, 0), (45, .getfield 171, 3, 9, 27, 0), (48, .putfield 311, 3, 9, 36, 0), (51, .aload_n 0, 1, 0, 0, 0), (52, .aload_n 0, 1, 0, 0, 0), (53, .getfield 174, 3, 9, 31, 0), (56, .putfield 314, 3, 9, 37, 0), (59, .aload_n 0, 1, 0, 0, 0), (60, .aload_n 0, 1, 0, 0, 0), (61, .getfield 177, 3, 9, 15, 0), (64, .putfield 70, 3, 9, 35, 0), (67, .aload_n 0, 1, 0, 0, 0), (68, .invokevirtual 189, 3, 133, 0, 0), (71, .ireturn, 1, 0, 0, 0)]
def px_t178 : List (Nat × px_K) := [(0, .aload_n 0, 1, 0, 0, 0), (1, .getfield 70, 3, 9, 35, 0), (4, .aload_n 0, 1, 0, 0, 0), (5, .getfield 177, 3, 9, 15, 0), (8, .if_icmp .eq 6, 3, 0, 0, 0), (11, .bipush (-103), 2, 0, 0, 0), (13, .ireturn, 1, 0, 0, 0), (14, .aload_n 0, 1, 0, 0, 0), (15, .getfield 61, 3, 9, 38, 0), (18, .aload_n 0, 1, 0, 0, 0), (19, .getfield 49, 3, 9, 25, 0), (22, .invokestatic 163, 3, 124, 2, 0), (25, .aload_n 0, 1, 0, 0, 0), (26, .getfield 64, 3, 9, 39, 0), (29, .aload_n 0, 1, 0, 0, 0), (30, .getfield 52, 3, 9, 26, 0), (33, .invokestatic 163, 3, 124, 2, 0), (36, .aload_n 0, 1, 0, 0, 0), (37, .getfield 67, 3, 9, 40, 0), (40, .aload_n 0, 1, 0, 0, 0), (41, .getfield 55, 3, 9, 32, 0), (44, .invokestatic 163, 3, 124, 2, 0), (47, .aload_n 0, 1, 0, 0, 0), (48, .aload_n 0, 1, 0, 0, 0), (49, .getfield 311, 3, 9, 36, 0), (52, .putfield 171, 3, 9, 27, 0), (55, .aload_n 0, 1, 0, 0, 0), (56, .aload_n 0, 1, 0, 0, 0), (57, .getfield 314, 3, 9, 37, 0), (60, .putfield 174, 3, 9, 31, 0), (63, .aload_n 0, 1, 0, 0, 0), (64, .invokevirtual 189, 3, 133, 0, 0), (67, .ireturn, 1, 0, 0, 0)]
def px_t179 : List (Nat × px_K) := [(0, .iconst 0, 1, 0, 0, 0), (1, .istore_n 1, 1, 0, 0, 0), (2, .iconst 0, 1, 0, 0, 0), (3, .istore_n 2, 1, 0, 0, 0), (4, .iload_n 2, 1, 0, 0, 0), (5, .aload_n 0, 1, 0, 0, 0), (6, .getfield 160, 3, 9, 14, 0), (9, .if_icmp .ge 18, 3, 0, 0, 0), (12, .iload_n 1, 1, 0, 0, 0), (13, .aload_n 0, 1, 0, 0, 0), (14, .getfield 37, 3, 9, 20, 0), (17, .iload_n 2, 1, 0, 0, 0), (18, .iaload, 1, 0, 0, 0), (19, .iadd, 1, 0, 0, 0), (20, .istore_n 1, 1, 0, 0, 0), (21, .iinc 2 1, 3, 0, 0, 0), (24, .goto (-20), 3, 0, 0, 0), (27, .iload_n 1, 1, 0, 0, 0), (28, .ireturn, 1, 0, 0, 0)]
def px_t180 : List (Nat × px_K) := [(0, .iconst 0, 1, 0, 0, 0), (1, .istore_n 1, 1, 0, 0, 0), (2, .iconst 0, 1, 0, 0, 0), (3, .istore_n 2, 1, 0, 0, 0), (4, .iload_n 2, 1, 0, 0, 0), (5, .bipush 10, 2, 0, 0, 0), (7, .aload_n 0, 1, 0, 0, 0), (8, .getfield 160, 3, 9, 14, 0), (11, .imul, 1, 0, 0, 0), (12, .if_icmp .ge 63, 3, 0, 0, 0), (15, .iconst 0, 1, 0, 0, 0), (16, .istore_n 3, 1, 0, 0, 0), (17, .iconst 0, 1, 0, 0, 0), (18, .istore 4, 2, 0, 0, 0), (20, .iload 4, 2, 0, 0, 0), (22, .iconst 4, 1, 0, 0, 0), (23, .if_icmp .ge 34, 3, 0, 0, 0), (26, .iload_n 3, 1, 0, 0, 0), (27, .ifCond .ne 18, 3, 0, 0, 0), (30, .aload_n 0, 1, 0, 0, 0), (31, .getfield 25, 3, 9, 16, 0), (34, .iconst 4, 1, 0, 0, 0), (35, .iload_n 2, 1, 0, 0, 0), (36, .imul, 1, 0, 0, 0), (37, .iload 4, 2, 0, 0, 0), (39, .iadd, 1, 0, 0, 0), (40, .iaload, 1, 0, 0, 0), (41, .iconst (-1), 1, 0, 0, 0), (42, .if_icmp .eq 7, 3, 0, 0, 0), (45, .iconst 1, 1, 0, 0, 0), (46, .goto 4, 3, 0, 0, 0), (49, .iconst 0, 1, 0, 0, 0), (50, .istore_n 3, 1, 0, 0, 0), (51, .iinc 4 1, 3, 0, 0, 0), (54, .goto (-34), 3, 0, 0, 0), (57, .iload_n 1, 1, 0, 0, 0), (58, .iload_n 3, 1, 0, 0, 0), (59, .ifCond .eq 7, 3, 0, 0, 0), (62, .iconst 1, 1, 0, 0, 0), (63, .goto 4, 3, 0, 0, 0), (66, .iconst 0, 1, 0, 0, 0), (67, .iadd, 1, 0, 0, 0), (68, .istore_n 1, 1, 0, 0, 0), (69, .iinc 2 1, 3, 0, 0, 0), (72, .goto (-68), 3, 0, 0, 0), (75, .iload_n 1, 1, 0, 0, 0), (76, .ireturn, 1, 0, 0, 0)]
def px_t181 : List (Nat × px_K) := [(0, .iload_n 1, 1, 0, 0, 0), (1, .tableswitch 87 0 7 #[47, 52, 57, 62, 67, 72, 77, 82], 47, 0, 0, 0), (48, .aload_n 0, 1, 0, 0, 0), (49, .getfield 160, 3, 9, 14, 0), (52, .ireturn, 1, 0, 0, 0), (53, .aload_n 0, 1, 0, 0, 0), (54, .invokevirtual 317, 3, 179, 0, 0), (57, .ireturn, 1, 0, 0, 0), (58, .aload_n 0, 1, 0, 0, 0), (59, .invokevirtual 189, 3, 133, 0, 0), (62, .ireturn, 1, 0, 0, 0), (63, .aload_n 0, 1, 0, 0, 0), (64, .getfield 171, 3, 9, 27, 0), (67, .ireturn, 1, 0, 0, 0), (68, .aload_n 0, 1, 0, 0, 0), (69, .invokevirtual 320, 3, 180, 0, 0), (72, .ireturn, 1, 0, 0, 0), (73, .aload_n 0, 1, 0, 0, 0), (74, .getfield 174, 3, 9, 31, 0), (77, .ireturn, 1, 0, 0, 0), (78, .aload_n 0, 1, 0, 0, 0), (79, .getfield 80, 3, 9, 1, 0), (82, .ireturn, 1, 0, 0, 0), (83, .aload_n 0, 1, 0, 0, 0), (84, .getfield 177, 3, 9, 15, 0), (87, .ireturn, 1, 0, 0, 0), (88, .bipush (-102), 2, 0, 0, 0), (90, .ireturn, 1, 0, 0, 0)]
def px_t182 : List (Nat × px_K) := [(0, .aload_n 0, 1, 0, 0, 0), (1, .iload_n 1, 1, 0, 0, 0), (2, .invokevirtual 323, 3, 181, 1, 0), (5, .ireturn, 1, 0, 0, 0)]
def px_t183 : List (Nat × px_K) := [(0, .aload_n 0, 1, 0, 0, 0), (1, .ldc2_w 326, 3, 0, 0, 31), (4, .aload_n 0, 1, 0, 0, 0), (5, .getfield 328, 3, 9, 41, 0), (8, .lmul, 1, 0, 0, 0), (9, .lload_n 1, 1, 0, 0, 0), (10, .ladd, 1, 0, 0, 0), (11, .putfield 328, 3, 9, 41, 0), (14, .return_, 1, 0, 0, 0)]
def px_t184 : List (Nat × px_K) := [(0, .iconst 0, 1, 0, 0, 0), (1, .istore_n 2, 1, 0, 0, 0), (2, .iload_n 2, 1, 0, 0, 0), (3, .bipush 60, 2, 0, 0, 0), (5, .if_icmp .ge 27, 3, 0, 0, 0), (8, .aload_n 0, 1, 0, 0, 0), (9, .aload_n 0, 1, 0, 0, 0), (10, .iload_n 1, 1, 0, 0, 0), (11, .iload_n 2, 1, 0, 0, 0), (12, .bipush 6, 2, 0, 0, 0), (14, .idiv, 1, 0, 0, 0), (15, .iload_n 2, 1, 0, 0, 0), (16, .bipush 6, 2, 0, 0, 0), (18, .irem, 1, 0, 0, 0), (19, .invokevirtual 261, 3, 156, 3, 0), (22, .i2l, 1, 0, 0, 0), (23, .invokevirtual 332, 3, 183, 1, 0), (26, .iinc 2 1, 3, 0, 0, 0), (29, .goto (-27), 3, 0, 0, 0), (32, .iconst 0, 1, 0, 0, 0), (33, .istore_n 2, 1, 0, 0, 0), (34, .iload_n 2, 1, 0, 0, 0), (35, .aload_n 0, 1, 0, 0, 0), (36, .getfield 37, 3, 9, 20, 0), (39, .iload_n 1, 1, 0, 0, 0), (40, .iaload, 1, 0, 0, 0), (41, .if_icmp .ge 35, 3, 0, 0, 0), (44, .iconst 0, 1, 0, 0, 0), (45, .istore_n 3, 1, 0, 0, 0), (46, .iload_n 3, 1, 0, 0, 0), (47, .bipush 7, 2, 0, 0, 0), (49, .if_icmp .ge 21, 3, 0, 0, 0), (52, .aload_n 0, 1, 0, 0, 0), (53, .aload_n 0, 1, 0, 0, 0), (54, .iload_n 1, 1, 0, 0, 0), (55, .iload_n 2, 1, 0, 0, 0), (56, .iload_n 3, 1, 0, 0, 0), (57, .invokevirtual 270, 3, 158, 3, 0), (60, .i2l, 1, 0, 0, 0), (61, .invokevirtual 332, 3, 183, 1, 0), (64, .iinc 3 1, 3, 0, 0, 0), (67, .goto (-21), 3, 0, 0, 0), (70, .iinc 2 1, 3, 0, 0, 0), (73, .goto (-39), 3, 0, 0, 0), (76, .return_, 1, 0, 0, 0)]
def px_t185 : List (Nat × px_K) := [(0, .iconst 0, 1, 0, 0, 0), (1, .istore_n 1, 1, 0, 0, 0), (2, .iload_n 1, 1, 0, 0, 0), (3, .bipush 15, 2, 0, 0, 0), (5, .if_icmp .ge 24, 3, 0, 0, 0), (8, .aload_n 0, 1, 0, 0, 0), (9, .aload_n 0, 1, 0, 0, 0), (10, .iload_n 1, 1, 0, 0, 0), (11, .iconst 3, 1, 0, 0, 0), (12, .idiv, 1, 0, 0, 0), (13, .iload_n 1, 1, 0, 0, 0), (14, .iconst 3, 1, 0, 0, 0), (15, .irem, 1, 0, 0, 0), (16, .invokevirtual 242, 3, 147, 2, 0), (19, .i2l, 1, 0, 0, 0), (20, .invokevirtual 332, 3, 183, 1, 0), (23, .iinc 1 1, 3, 0, 0, 0), (26, .goto (-24), 3, 0, 0, 0), (29, .aload_n 0, 1, 0, 0, 0), (30, .aload_n 0, 1, 0, 0, 0), (31, .invokevirtual 252, 3, 152, 0, 0), (34, .i2l, 1, 0, 0, 0), (35, .invokevirtual 332, 3, 183, 1, 0), (38, .return_, 1, 0, 0, 0)]
def px_t186 : List (Nat × px_K) := [(0, .aload_n 0, 1, 0, 0, 0), (1, .ldc2_w 336, 3, 0, 0, 1399), (4, .putfield 328, 3, 9, 41, 0), (7, .iconst 0, 1, 0, 0, 0), (8, .istore_n 1, 1, 0, 0, 0), (9, .iload_n 1, 1, 0, 0, 0), (10, .aload_n 0, 1, 0, 0, 0), (11, .getfield 160, 3, 9, 14, 0), (14, .if_icmp .ge 14, 3, 0, 0, 0), (17, .aload_n 0, 1, 0, 0, 0), (18, .iload_n 1, 1, 0, 0, 0), (19, .invokevirtual 338, 3, 184, 1, 0), (22, .iinc 1 1, 3, 0, 0, 0), (25, .goto (-16), 3, 0, 0, 0), (28, .iconst 0, 1, 0, 0, 0), (29, .istore_n 1, 1, 0, 0, 0), (30, .iload_n 1, 1, 0, 0, 0), (31, .aload_n 0, 1, 0, 0, 0), (32, .invokevirtual 189, 3, 133, 0, 0), (35, .if_icmp .ge 34, 3, 0, 0, 0), (38, .iconst 0, 1, 0, 0, 0), (39, .istore_n 2, 1, 0, 0, 0), (40, .iload_n 2, 1, 0, 0, 0), (41, .bipush 12, 2, 0, 0, 0), (43, .if_icmp .ge 20, 3, 0, 0, 0), (46, .aload_n 0, 1, 0, 0, 0), (47, .aload_n 0, 1, 0, 0, 0), (48, .iload_n 1, 1, 0, 0, 0), (49, .iload_n 2, 1, 0, 0, 0), (50, .invokevirtual 278, 3, 162, 2, 0), (53, .i2l, 1, 0, 0, 0), (54, .invokevirtual 332, 3, 183, 1, 0), (57, .iinc 2 1, 3, 0, 0, 0), (60, .goto (-20), 3, 0, 0, 0), (63, .iinc 1 1, 3, 0, 0, 0), (66, .goto (-36), 3, 0, 0, 0), (69, .iconst 0, 1, 0, 0, 0), (70, .istore_n 1, 1, 0, 0, 0), (71, .iload_n 1, 1, 0, 0, 0), (72, .iconst 4, 1, 0, 0, 0), (73, .if_icmp .ge 23, 3, 0, 0, 0), (76, .aload_n 0, 1, 0, 0, 0), (77, .aload_n 0, 1, 0, 0, 0), (78, .getfield 49, 3, 9, 25, 0), (81, .bipush 9, 2, 0, 0, 0), (83, .iload_n 1, 1, 0, 0, 0), (84, .iadd, 1, 0, 0, 0), (85, .iaload, 1, 0, 0, 0), (86, .i2l, 1, 0, 0, 0), (87, .invokevirtual 332, 3, 183, 1, 0), (90, .iinc 1 1, 3, 0, 0, 0), (93, .goto (-22), 3, 0, 0, 0), (96, .aload_n 0, 1, 0, 0, 0), (97, .invokevirtual 207, 3, 128, 0, 0), (100, .ifCond .ne 7, 3, 0, 0, 0), (103, .aload_n 0, 1, 0, 0, 0), (104, .invokevirtual 341, 3, 185, 0, 0), (107, .aload_n 0, 1, 0, 0, 0), (108, .aload_n 0, 1, 0, 0, 0), (109, .getfield 49, 3, 9, 25, 0), (112, .bipush 78, 2, 0, 0, 0), (114, .iaload, 1, 0, 0, 0), (115, .i2l, 1, 0, 0, 0), (116, .invokevirtual 332, 3, 183, 1, 0), (119, .iconst 0, 1, 0, 0, 0), (120, .istore_n 1, 1, 0, 0, 0), (121, .iload_n 1, 1, 0, 0, 0), (122, .aload_n 0, 1, 0, 0, 0), (123, .getfield 49, 3, 9, 25, 0), (126, .bipush 78, 2, 0, 0, 0), (128, .iaload, 1, 0, 0, 0), (129, .if_icmp .ge 23, 3, 0, 0, 0), (132, .aload_n 0, 1, 0, 0, 0), (133, .aload_n 0, 1, 0, 0, 0), (134, .getfield 49, 3, 9, 25, 0), (137, .bipush 79, 2, 0, 0, 0), (139, .iload_n 1, 1, 0, 0, 0), (140, .iadd, 1, 0, 0, 0), (141, .iaload, 1, 0, 0, 0), (142, .i2l, 1, 0, 0, 0), (143, .invokevirtual 332, 3, 183, 1, 0), (146, .iinc 1 1, 3, 0, 0, 0), (149, .goto (-28), 3, 0, 0, 0), (152, .iconst 0, 1, 0, 0, 0), (153, .istore_n 1, 1, 0, 0, 0), (154, .iload_n 1, 1, 0, 0, 0), (155, .aload_n 0, 1, 0, 0, 0), (156, .getfield 80, 3, 9, 1, 0), (159, .if_icmp .ge 20, 3, 0, 0, 0), (162, .aload_n 0, 1, 0, 0, 0), (163, .aload_n 0, 1, 0, 0, 0), (164, .getfield 7, 3, 9, 0, 0), (167, .iload_n 1, 1, 0, 0, 0), (168, .iaload, 1, 0, 0, 0), (169, .i2l, 1, 0, 0, 0), (170, .invokevirtual 332, 3, 183, 1, 0), (173, .iinc 1 1, 3, 0, 0, 0), (176, .goto (-22), 3, 0, 0, 0), (179, .iconst 0, 1, 0, 0, 0), (180, .istore_n 1, 1, 0, 0, 0), (181, .iload_n 1, 1, 0, 0, 0), (182, .bipush 8, 2, 0, 0, 0), (184, .if_icmp .ge 19, 3, 0, 0, 0), (187, .aload_n 0, 1, 0, 0, 0), (188, .aload_n 0, 1, 0, 0, 0), (189, .iload_n 1, 1, 0, 0, 0), (190, .invokevirtual 323, 3, 181, 1, 0), (193, .i2l, 1, 0, 0, 0), (194, .invokevirtual 332, 3, 183, 1, 0), (197, .iinc 1 1, 3, 0, 0, 0), (200, .goto (-19), 3, 0, 0, 0), (203, .aload_n 0, 1, 0, 0, 0), (204, .getfield 328, 3, 9, 41, 0), (207, .lreturn, 1, 0, 0, 0)]
def px_t187 : List (Nat × px_K) := [(0, .iconst 0, 1, 0, 0, 0), (1, .istore_n 2, 1, 0, 0, 0), (2, .aload_n 0, 1, 0, 0, 0), (3, .arraylength, 1, 0, 0, 0), (4, .istore_n 3, 1, 0, 0, 0), (5, .iload_n 2, 1, 0, 0, 0), (6, .iload_n 3, 1, 0, 0, 0), (7, .if_icmp .ge 13, 3, 0, 0, 0), (10, .aload_n 0, 1, 0, 0, 0), (11, .iload_n 2, 1, 0, 0, 0), (12, .iload_n 1, 1, 0, 0, 0), (13, .iastore, 1, 0, 0, 0), (14, .iinc 2 1, 3, 0, 0, 0), (17, .goto (-12), 3, 0, 0, 0), (20, .return_, 1, 0, 0, 0)]
def px_t188 : List (Nat × px_K) := [(0, .new 7, 3, 8, 8, 0), (3, .dup, 1, 0, 0, 0), (4, .invokespecial 9, 3, 67, 0, 0), (7, .astore_n 1, 1, 0, 0, 0), (8, .new 10, 3, 9, 42, 0), (11, .dup, 1, 0, 0, 0), (12, .invokespecial 12, 3, 109, 0, 0), (15, .astore_n 2, 1, 0, 0, 0), (16, .iconst 0, 1, 0, 0, 0), (17, .istore_n 3, 1, 0, 0, 0), (18, .iload_n 3, 1, 0, 0, 0), (19, .aload_n 0, 1, 0, 0, 0), (20, .arraylength, 1, 0, 0, 0), (21, .iconst 5, 1, 0, 0, 0), (22, .isub, 1, 0, 0, 0), (23, .if_icmp .gt 831, 3, 0, 0, 0), (26, .aload_n 0, 1, 0, 0, 0), (27, .iload_n 3, 1, 0, 0, 0), (28, .iaload, 1, 0, 0, 0), (29, .bipush 31, 2, 0, 0, 0), (31, .iand, 1, 0, 0, 0), (32, .tableswitch 816 0 26 #[124, 147, 160, 173, 186, 229, 272, 315, 348, 371, 394, 417, 450, 463, 486, 529, 542, 575, 588, 611, 644, 697, 710, 753, 766, 779, 802], 124, 0, 0, 0), (156, .aload_n 1, 1, 0, 0, 0), (157, .aload_n 0, 1, 0, 0, 0), (158, .iload_n 3, 1, 0, 0, 0), (159, .iconst 1, 1, 0, 0, 0), (160, .iadd, 1, 0, 0, 0), (161, .iaload, 1, 0, 0, 0), (162, .invokevirtual 13, 3, 68, 1, 0), (165, .aload_n 2, 1, 0, 0, 0), (166, .aload_n 0, 1, 0, 0, 0), (167, .iload_n 3, 1, 0, 0, 0), (168, .iconst 1, 1, 0, 0, 0), (169, .iadd, 1, 0, 0, 0), (170, .iaload, 1, 0, 0, 0), (171, .invokevirtual 17, 3, 111, 1, 0), (174, .if_icmp .eq 674, 3, 0, 0, 0), (177, .iconst 0, 1, 0, 0, 0), (178, .ireturn, 1, 0, 0, 0), (179, .aload_n 1, 1, 0, 0, 0), (180, .invokevirtual 18, 3, 69, 0, 0), (183, .aload_n 2, 1, 0, 0, 0), (184, .invokevirtual 22, 3, 112, 0, 0), (187, .if_icmp .eq 661, 3, 0, 0, 0), (190, .iconst 0, 1, 0, 0, 0), (191, .ireturn, 1, 0, 0, 0), (192, .aload_n 1, 1, 0, 0, 0), (193, .invokevirtual 23, 3, 70, 0, 0), (196, .aload_n 2, 1, 0, 0, 0), (197, .invokevirtual 26, 3, 123, 0, 0), (200, .if_icmp .eq 648, 3, 0, 0, 0), (203, .iconst 0, 1, 0, 0, 0), (204, .ireturn, 1, 0, 0, 0), (205, .aload_n 1, 1, 0, 0, 0), (206, .invokevirtual 27, 3, 71, 0, 0), (209, .aload_n 2, 1, 0, 0, 0), (210, .invokevirtual 30, 3, 127, 0, 0), (213, .if_icmp .eq 635, 3, 0, 0, 0), (216, .iconst 0, 1, 0, 0, 0), (217, .ireturn, 1, 0, 0, 0), (218, .aload_n 1, 1, 0, 0, 0), (219, .aload_n 0, 1, 0, 0, 0), (220, .iload_n 3, 1, 0, 0, 0), (221, .iconst 1, 1, 0, 0, 0), (222, .iadd, 1, 0, 0, 0), (223, .iaload, 1, 0, 0, 0), (224, .aload_n 0, 1, 0, 0, 0), (225, .iload_n 3, 1, 0, 0, 0), (226, .iconst 2, 1, 0, 0, 0), (227, .iadd, 1, 0, 0, 0), (228, .iaload, 1, 0, 0, 0), (229, .aload_n 0, 1, 0, 0, 0), (230, .iload_n 3, 1, 0, 0, 0), (231, .iconst 3, 1, 0, 0, 0), (232, .iadd, 1, 0, 0, 0), (233, .iaload, 1, 0, 0, 0), (234, .invokevirtual 31, 3, 72, 3, 0), (237, .aload_n 2, 1, 0, 0, 0), (238, .aload_n 0, 1, 0, 0, 0), (239, .iload_n 3, 1, 0, 0, 0), (240, .iconst 1, 1, 0, 0, 0), (241, .iadd, 1, 0, 0, 0), (242, .iaload, 1, 0, 0, 0), (243, .aload_n 0, 1, 0, 0, 0), (244, .iload_n 3, 1, 0, 0, 0), (245, .iconst 2, 1, 0, 0, 0), (246, .iadd, 1, 0, 0, 0), (247, .iaload, 1, 0, 0, 0), (248, .aload_n 0, 1, 0, 0, 0), (249, .iload_n 3, 1, 0, 0, 0), (250, .iconst 3, 1, 0, 0, 0), (251, .iadd, 1, 0, 0, 0), (252, .iaload, 1, 0, 0, 0), (253, .invokevirtual 35, 3, 157, 3, 0), (256, .if_icmp .eq 592, 3, 0, 0, 0), (259, .iconst 0, 1, 0, 0, 0), (260, .ireturn, 1, 0, 0, 0), (261, .aload_n 1, 1, 0, 0, 0), (262, .aload_n 0, 1, 0, 0, 0), (263, .iload_n 3, 1, 0, 0, 0), (264, .iconst 1, 1, 0, 0, 0), (265, .iadd, 1, 0, 0, 0), (266, .iaload, 1, 0, 0, 0), (267, .aload_n 0, 1, 0, 0, 0), (268, .iload_n 3, 1, 0, 0, 0), (269, .iconst 2, 1, 0, 0, 0), (270, .iadd, 1, 0, 0, 0), (271, .iaload, 1, 0, 0, 0), (272, .aload_n 0, 1, 0, 0, 0), (273, .iload_n 3, 1, 0, 0, 0), (274, .iconst 3, 1, 0, 0, 0), (275, .iadd, 1, 0, 0, 0), (276, .iaload, 1, 0, 0, 0), (277, .invokevirtual 36, 3, 73, 3, 0), (280, .aload_n 2, 1, 0, 0, 0), (281, .aload_n 0, 1, 0, 0, 0), (282, .iload_n 3, 1, 0, 0, 0), (283, .iconst 1, 1, 0, 0, 0), (284, .iadd, 1, 0, 0, 0), (285, .iaload, 1, 0, 0, 0), (286, .aload_n 0, 1, 0, 0, 0), (287, .iload_n 3, 1, 0, 0, 0), (288, .iconst 2, 1, 0, 0, 0), (289, .iadd, 1, 0, 0, 0), (290, .iaload, 1, 0, 0, 0), (291, .aload_n 0, 1, 0, 0, 0), (292, .iload_n 3, 1, 0, 0, 0), (293, .iconst 3, 1, 0, 0, 0), (294, .iadd, 1, 0, 0, 0), (295, .iaload, 1, 0, 0, 0), (296, .invokevirtual 39, 3, 159, 3, 0), (299, .if_icmp .eq 549, 3, 0, 0, 0), (302, .iconst 0, 1, 0, 0, 0), (303, .ireturn, 1, 0, 0, 0), (304, .aload_n 1, 1, 0, 0, 0), (305, .aload_n 0, 1, 0, 0, 0), (306, .iload_n 3, 1, 0, 0, 0), (307, .iconst 1, 1, 0, 0, 0), (308, .iadd, 1, 0, 0, 0), (309, .iaload, 1, 0, 0, 0), (310, .aload_n 0, 1, 0, 0, 0), (311, .iload_n 3, 1, 0, 0, 0), (312, .iconst 2, 1, 0, 0, 0), (313, .iadd, 1, 0, 0, 0), (314, .iaload, 1, 0, 0, 0), (315, .aload_n 0, 1, 0, 0, 0), (316, .iload_n 3, 1, 0, 0, 0), (317, .iconst 3, 1, 0, 0, 0), (318, .iadd, 1, 0, 0, 0), (319, .iaload, 1, 0, 0, 0), (320, .invokevirtual 40, 3, 74, 3, 0), (323, .aload_n 2, 1, 0, 0, 0), (324, .aload_n 0, 1, 0, 0, 0), (325, .iload_n 3, 1, 0, 0, 0), (326, .iconst 1, 1, 0, 0, 0), (327, .iadd, 1, 0, 0, 0), (328, .iaload, 1, 0, 0, 0), (329, .aload_n 0, 1, 0, 0, 0), (330, .iload_n 3, 1, 0, 0, 0), (331, .iconst 2, 1, 0, 0, 0), (332, .iadd, 1, 0, 0, 0), (333, .iaload, 1, 0, 0, 0), (334, .aload_n 0, 1, 0, 0, 0), (335, .iload_n 3, 1, 0, 0, 0), (336, .iconst 3, 1, 0, 0, 0), (337, .iadd, 1, 0, 0, 0), (338, .iaload, 1, 0, 0, 0), (339, .invokevirtual 43, 3, 160, 3, 0), (342, .if_icmp .eq 506, 3, 0, 0, 0), (345, .iconst 0, 1, 0, 0, 0), (346, .ireturn, 1, 0, 0, 0), (347, .aload_n 1, 1, 0, 0, 0), (348, .aload_n 0, 1, 0, 0, 0), (349, .iload_n 3, 1, 0, 0, 0), (350, .iconst 1, 1, 0, 0, 0), (351, .iadd, 1, 0, 0, 0), (352, .iaload, 1, 0, 0, 0), (353, .aload_n 0, 1, 0, 0, 0), (354, .iload_n 3, 1, 0, 0, 0), (355, .iconst 2, 1, 0, 0, 0), (356, .iadd, 1, 0, 0, 0), (357, .iaload, 1, 0, 0, 0), (358, .invokevirtual 44, 3, 75, 2, 0), (361, .aload_n 2, 1, 0, 0, 0), (362, .aload_n 0, 1, 0, 0, 0), (363, .iload_n 3, 1, 0, 0, 0), (364, .iconst 1, 1, 0, 0, 0), (365, .iadd, 1, 0, 0, 0), (366, .iaload, 1, 0, 0, 0), (367, .aload_n 0, 1, 0, 0, 0), (368, .iload_n 3, 1, 0, 0, 0), (369, .iconst 2, 1, 0, 0, 0), (370, .iadd, 1, 0, 0, 0), (371, .iaload, 1, 0, 0, 0), (372, .invokevirtual 48, 3, 163, 2, 0), (375, .if_icmp .eq 473, 3, 0, 0, 0), (378, .iconst 0, 1, 0, 0, 0), (379, .ireturn, 1, 0, 0, 0), (380, .aload_n 1, 1, 0, 0, 0), (381, .aload_n 0, 1, 0, 0, 0), (382, .iload_n 3, 1, 0, 0, 0), (383, .iconst 1, 1, 0, 0, 0), (384, .iadd, 1, 0, 0, 0), (385, .iaload, 1, 0, 0, 0), (386, .invokevirtual 49, 3, 76, 1, 0), (389, .aload_n 2, 1, 0, 0, 0), (390, .aload_n 0, 1, 0, 0, 0), (391, .iload_n 3, 1, 0, 0, 0), (392, .iconst 1, 1, 0, 0, 0), (393, .iadd, 1, 0, 0, 0), (394, .iaload, 1, 0, 0, 0), (395, .invokevirtual 52, 3, 164, 1, 0), (398, .if_icmp .eq 450, 3, 0, 0, 0), (401, .iconst 0, 1, 0, 0, 0), (402, .ireturn, 1, 0, 0, 0), (403, .aload_n 1, 1, 0, 0, 0), (404, .aload_n 0, 1, 0, 0, 0), (405, .iload_n 3, 1, 0, 0, 0), (406, .iconst 1, 1, 0, 0, 0), (407, .iadd, 1, 0, 0, 0), (408, .iaload, 1, 0, 0, 0), (409, .invokevirtual 53, 3, 77, 1, 0), (412, .aload_n 2, 1, 0, 0, 0), (413, .aload_n 0, 1, 0, 0, 0), (414, .iload_n 3, 1, 0, 0, 0), (415, .iconst 1, 1, 0, 0, 0), (416, .iadd, 1, 0, 0, 0), (417, .iaload, 1, 0, 0, 0), (418, .invokevirtual 56, 3, 139, 1, 0), (421, .if_icmp .eq 427, 3, 0, 0, 0), (424, .iconst 0, 1, 0, 0, 0), (425, .ireturn, 1, 0, 0, 0), (426, .aload_n 1, 1, 0, 0, 0), (427, .aload_n 0, 1, 0, 0, 0), (428, .iload_n 3, 1, 0, 0, 0), (429, .iconst 1, 1, 0, 0, 0), (430, .iadd, 1, 0, 0, 0), (431, .iaload, 1, 0, 0, 0), (432, .invokevirtual 57, 3, 78, 1, 0), (435, .aload_n 2, 1, 0, 0, 0), (436, .aload_n 0, 1, 0, 0, 0), (437, .iload_n 3, 1, 0, 0, 0), (438, .iconst 1, 1, 0, 0, 0), (439, .iadd, 1, 0, 0, 0), (440, .iaload, 1, 0, 0, 0), (441, .invokevirtual 60, 3, 140, 1, 0), (444, .if_icmp .eq 404, 3, 0, 0, 0), (447, .iconst 0, 1, 0, 0, 0), (448, .ireturn, 1, 0, 0, 0), (449, .aload_n 1, 1, 0, 0, 0), (450, .aload_n 0, 1, 0, 0, 0), (451, .iload_n 3, 1, 0, 0, 0), (452, .iconst 1, 1, 0, 0, 0), (453, .iadd, 1, 0, 0, 0), (454, .iaload, 1, 0, 0, 0), (455, .aload_n 0, 1, 0, 0, 0), (456, .iload_n 3, 1, 0, 0, 0), (457, .iconst 2, 1, 0, 0, 0), (458, .iadd, 1, 0, 0, 0), (459, .iaload, 1, 0, 0, 0), (460, .invokevirtual 61, 3, 79, 2, 0), (463, .aload_n 2, 1, 0, 0, 0), (464, .aload_n 0, 1, 0, 0, 0), (465, .iload_n 3, 1, 0, 0, 0), (466, .iconst 1, 1, 0, 0, 0), (467, .iadd, 1, 0, 0, 0), (468, .iaload, 1, 0, 0, 0), (469, .aload_n 0, 1, 0, 0, 0), (470, .iload_n 3, 1, 0, 0, 0), (471, .iconst 2, 1, 0, 0, 0), (472, .iadd, 1, 0, 0, 0), (473, .iaload, 1, 0, 0, 0), (474, .invokevirtual 64, 3, 141, 2, 0), (477, .if_icmp .eq 371, 3, 0, 0, 0), (480, .iconst 0, 1, 0, 0, 0), (481, .ireturn, 1, 0, 0, 0), (482, .aload_n 1, 1, 0, 0, 0), (483, .invokevirtual 65, 3, 80, 0, 0), (486, .aload_n 2, 1, 0, 0, 0), (487, .invokevirtual 68, 3, 142, 0, 0), (490, .if_icmp .eq 358, 3, 0, 0, 0), (493, .iconst 0, 1, 0, 0, 0), (494, .ireturn, 1, 0, 0, 0), (495, .aload_n 1, 1, 0, 0, 0), (496, .aload_n 0, 1, 0, 0, 0), (497, .iload_n 3, 1, 0, 0, 0), (498, .iconst 1, 1, 0, 0, 0), (499, .iadd, 1, 0, 0, 0), (500, .iaload, 1, 0, 0, 0), (501, .invokevirtual 69, 3, 81, 1, 0), (504, .aload_n 2, 1, 0, 0, 0), (505, .aload_n 0, 1, 0, 0, 0), (506, .iload_n 3, 1, 0, 0, 0), (507, .iconst 1, 1, 0, 0, 0), (508, .iadd, 1, 0, 0, 0), (509, .iaload, 1, 0, 0, 0), (510, .invokevirtual 72, 3, 151, 1, 0), (513, .if_icmp .eq 335, 3, 0, 0, 0), (516, .iconst 0, 1, 0, 0, 0), (517, .ireturn, 1, 0, 0, 0), (518, .aload_n 1, 1, 0, 0, 0), (519, .aload_n 0, 1, 0, 0, 0), (520, .iload_n 3, 1, 0, 0, 0), (521, .iconst 1, 1, 0, 0, 0), (522, .iadd, 1, 0, 0, 0), (523, .iaload, 1, 0, 0, 0), (524, .aload_n 0, 1, 0, 0, 0), (525, .iload_n 3, 1, 0, 0, 0), (526, .iconst 2, 1, 0, 0, 0), (527, .iadd, 1, 0, 0, 0), (528, .iaload, 1, 0, 0, 0), (529, .aload_n 0, 1, 0, 0, 0), (530, .iload_n 3, 1, 0, 0, 0), (531, .iconst 3, 1, 0, 0, 0), (532, .iadd, 1, 0, 0, 0), (533, .iaload, 1, 0, 0, 0), (534, .invokevirtual 73, 3, 82, 3, 0), (537, .aload_n 2, 1, 0, 0, 0), (538, .aload_n 0, 1, 0, 0, 0), (539, .iload_n 3, 1, 0, 0, 0), (540, .iconst 1, 1, 0, 0, 0), (541, .iadd, 1, 0, 0, 0), (542, .iaload, 1, 0, 0, 0), (543, .aload_n 0, 1, 0, 0, 0), (544, .iload_n 3, 1, 0, 0, 0), (545, .iconst 2, 1, 0, 0, 0), (546, .iadd, 1, 0, 0, 0), (547, .iaload, 1, 0, 0, 0), (548, .aload_n 0, 1, 0, 0, 0), (549, .iload_n 3, 1, 0, 0, 0), (550, .iconst 3, 1, 0, 0, 0), (551, .iadd, 1, 0, 0, 0), (552, .iaload, 1, 0, 0, 0), (553, .invokevirtual 76, 3, 155, 3, 0), (556, .if_icmp .eq 292, 3, 0, 0, 0), (559, .iconst 0, 1, 0, 0, 0), (560, .ireturn, 1, 0, 0, 0), (561, .aload_n 1, 1, 0, 0, 0), (562, .invokevirtual 77, 3, 83, 0, 0), (565, .aload_n 2, 1, 0, 0, 0), (566, .invokevirtual 80, 3, 132, 0, 0), (569, .if_icmp .eq 279, 3, 0, 0, 0), (572, .iconst 0, 1, 0, 0, 0), (573, .ireturn, 1, 0, 0, 0), (574, .aload_n 1, 1, 0, 0, 0), (575, .aload_n 0, 1, 0, 0, 0), (576, .iload_n 3, 1, 0, 0, 0), (577, .iconst 1, 1, 0, 0, 0), (578, .iadd, 1, 0, 0, 0), (579, .iaload, 1, 0, 0, 0), (580, .aload_n 0, 1, 0, 0, 0), (581, .iload_n 3, 1, 0, 0, 0), (582, .iconst 2, 1, 0, 0, 0), (583, .iadd, 1, 0, 0, 0), (584, .iaload, 1, 0, 0, 0), (585, .invokevirtual 81, 3, 84, 2, 0), (588, .aload_n 2, 1, 0, 0, 0), (589, .aload_n 0, 1, 0, 0, 0), (590, .iload_n 3, 1, 0, 0, 0), (591, .iconst 1, 1, 0, 0, 0), (592, .iadd, 1, 0, 0, 0), (593, .iaload, 1, 0, 0, 0), (594, .aload_n 0, 1, 0, 0, 0), (595, .iload_n 3, 1, 0, 0, 0), (596, .iconst 2, 1, 0, 0, 0), (597, .iadd, 1, 0, 0, 0), (598, .iaload, 1, 0, 0, 0), (599, .invokevirtual 84, 3, 148, 2, 0), (602, .if_icmp .eq 246, 3, 0, 0, 0), (605, .iconst 0, 1, 0, 0, 0), (606, .ireturn, 1, 0, 0, 0), (607, .aload_n 1, 1, 0, 0, 0), (608, .invokevirtual 85, 3, 85, 0, 0), (611, .aload_n 2, 1, 0, 0, 0), (612, .invokevirtual 88, 3, 153, 0, 0), (615, .if_icmp .eq 233, 3, 0, 0, 0), (618, .iconst 0, 1, 0, 0, 0), (619, .ireturn, 1, 0, 0, 0), (620, .aload_n 1, 1, 0, 0, 0), (621, .aload_n 0, 1, 0, 0, 0), (622, .iload_n 3, 1, 0, 0, 0), (623, .iconst 1, 1, 0, 0, 0), (624, .iadd, 1, 0, 0, 0), (625, .iaload, 1, 0, 0, 0), (626, .invokevirtual 89, 3, 86, 1, 0), (629, .aload_n 2, 1, 0, 0, 0), (630, .aload_n 0, 1, 0, 0, 0), (631, .iload_n 3, 1, 0, 0, 0), (632, .iconst 1, 1, 0, 0, 0), (633, .iadd, 1, 0, 0, 0), (634, .iaload, 1, 0, 0, 0), (635, .invokevirtual 92, 3, 154, 1, 0), (638, .if_icmp .eq 210, 3, 0, 0, 0), (641, .iconst 0, 1, 0, 0, 0), (642, .ireturn, 1, 0, 0, 0), (643, .aload_n 1, 1, 0, 0, 0), (644, .aload_n 0, 1, 0, 0, 0), (645, .iload_n 3, 1, 0, 0, 0), (646, .iconst 1, 1, 0, 0, 0), (647, .iadd, 1, 0, 0, 0), (648, .iaload, 1, 0, 0, 0), (649, .aload_n 0, 1, 0, 0, 0), (650, .iload_n 3, 1, 0, 0, 0), (651, .iconst 2, 1, 0, 0, 0), (652, .iadd, 1, 0, 0, 0), (653, .iaload, 1, 0, 0, 0), (654, .invokevirtual 93, 3, 87, 2, 0), (657, .aload_n 2, 1, 0, 0, 0), (658, .aload_n 0, 1, 0, 0, 0), (659, .iload_n 3, 1, 0, 0, 0), (660, .iconst 1, 1, 0, 0, 0), (661, .iadd, 1, 0, 0, 0), (662, .iaload, 1, 0, 0, 0), (663, .aload_n 0, 1, 0, 0, 0), (664, .iload_n 3, 1, 0, 0, 0), (665, .iconst 2, 1, 0, 0, 0), (666, .iadd, 1, 0, 0, 0), (667, .iaload, 1, 0, 0, 0), (668, .invokevirtual 96, 3, 165, 2, 0), (671, .if_icmp .eq 177, 3, 0, 0, 0), (674, .iconst 0, 1, 0, 0, 0), (675, .ireturn, 1, 0, 0, 0), (676, .aload_n 1, 1, 0, 0, 0), (677, .aload_n 0, 1, 0, 0, 0), (678, .iload_n 3, 1, 0, 0, 0), (679, .iconst 1, 1, 0, 0, 0), (680, .iadd, 1, 0, 0, 0), (681, .iaload, 1, 0, 0, 0), (682, .aload_n 0, 1, 0, 0, 0), (683, .iload_n 3, 1, 0, 0, 0), (684, .iconst 2, 1, 0, 0, 0), (685, .iadd, 1, 0, 0, 0), (686, .iaload, 1, 0, 0, 0), (687, .aload_n 0, 1, 0, 0, 0), (688, .iload_n 3, 1, 0, 0, 0), (689, .iconst 3, 1, 0, 0, 0), (690, .iadd, 1, 0, 0, 0), (691, .iaload, 1, 0, 0, 0), (692, .aload_n 0, 1, 0, 0, 0), (693, .iload_n 3, 1, 0, 0, 0), (694, .iconst 4, 1, 0, 0, 0), (695, .iadd, 1, 0, 0, 0), (696, .iaload, 1, 0, 0, 0), (697, .invokevirtual 97, 3, 88, 4, 0), (700, .aload_n 2, 1, 0, 0, 0), (701, .aload_n 0, 1, 0, 0, 0), (702, .iload_n 3, 1, 0, 0, 0), (703, .iconst 1, 1, 0, 0, 0), (704, .iadd, 1, 0, 0, 0), (705, .iaload, 1, 0, 0, 0), (706, .aload_n 0, 1, 0, 0, 0), (707, .iload_n 3, 1, 0, 0, 0), (708, .iconst 2, 1, 0, 0, 0), (709, .iadd, 1, 0, 0, 0), (710, .iaload, 1, 0, 0, 0), (711, .aload_n 0, 1, 0, 0, 0), (712, .iload_n 3, 1, 0, 0, 0), (713, .iconst 3, 1, 0, 0, 0), (714, .iadd, 1, 0, 0, 0), (715, .iaload, 1, 0, 0, 0), (716, .aload_n 0, 1, 0, 0, 0), (717, .iload_n 3, 1, 0, 0, 0), (718, .iconst 4, 1, 0, 0, 0), (719, .iadd, 1, 0, 0, 0), (720, .iaload, 1, 0, 0, 0), (721, .invokevirtual 101, 3, 166, 4, 0), (724, .if_icmp .eq 124, 3, 0, 0, 0), (727, .iconst 0, 1, 0, 0, 0), (728, .ireturn, 1, 0, 0, 0), (729, .aload_n 1, 1, 0, 0, 0), (730, .invokevirtual 102, 3, 89, 0, 0), (733, .aload_n 2, 1, 0, 0, 0), (734, .invokevirtual 105, 3, 167, 0, 0), (737, .if_icmp .eq 111, 3, 0, 0, 0), (740, .iconst 0, 1, 0, 0, 0), (741, .ireturn, 1, 0, 0, 0), (742, .aload_n 1, 1, 0, 0, 0), (743, .aload_n 0, 1, 0, 0, 0), (744, .iload_n 3, 1, 0, 0, 0), (745, .iconst 1, 1, 0, 0, 0), (746, .iadd, 1, 0, 0, 0), (747, .iaload, 1, 0, 0, 0), (748, .aload_n 0, 1, 0, 0, 0), (749, .iload_n 3, 1, 0, 0, 0), (750, .iconst 2, 1, 0, 0, 0), (751, .iadd, 1, 0, 0, 0), (752, .iaload, 1, 0, 0, 0), (753, .aload_n 0, 1, 0, 0, 0), (754, .iload_n 3, 1, 0, 0, 0), (755, .iconst 3, 1, 0, 0, 0), (756, .iadd, 1, 0, 0, 0), (757, .iaload, 1, 0, 0, 0), (758, .invokevirtual 106, 3, 90, 3, 0), (761, .aload_n 2, 1, 0, 0, 0), (762, .aload_n 0, 1, 0, 0, 0), (763, .iload_n 3, 1, 0, 0, 0), (764, .iconst 1, 1, 0, 0, 0), (765, .iadd, 1, 0, 0, 0), (766, .iaload, 1, 0, 0, 0), (767, .aload_n 0, 1, 0, 0, 0), (768, .iload_n 3, 1, 0, 0, 0), (769, .iconst 2, 1, 0, 0, 0), (770, .iadd, 1, 0, 0, 0), (771, .iaload, 1, 0, 0, 0), (772, .aload_n 0, 1, 0, 0, 0), (773, .iload_n 3, 1, 0, 0, 0), (774, .iconst 3, 1, 0, 0, 0), (775, .iadd, 1, 0, 0, 0), (776, .iaload, 1, 0, 0, 0), (777, .invokevirtual 109, 3, 176, 3, 0), (780, .if_icmp .eq 68, 3, 0, 0, 0), (783, .iconst 0, 1, 0, 0, 0), (784, .ireturn, 1, 0, 0, 0), (785, .aload_n 1, 1, 0, 0, 0), (786, .invokevirtual 110, 3, 91, 0, 0), (789, .aload_n 2, 1, 0, 0, 0), (790, .invokevirtual 113, 3, 177, 0, 0), (793, .if_icmp .eq 55, 3, 0, 0, 0), (796, .iconst 0, 1, 0, 0, 0), (797, .ireturn, 1, 0, 0, 0), (798, .aload_n 1, 1, 0, 0, 0), (799, .invokevirtual 114, 3, 92, 0, 0), (802, .aload_n 2, 1, 0, 0, 0), (803, .invokevirtual 117, 3, 178, 0, 0), (806, .if_icmp .eq 42, 3, 0, 0, 0), (809, .iconst 0, 1, 0, 0, 0), (810, .ireturn, 1, 0, 0, 0), (811, .aload_n 1, 1, 0, 0, 0), (812, .aload_n 0, 1, 0, 0, 0), (813, .iload_n 3, 1, 0, 0, 0), (814, .iconst 1, 1, 0, 0, 0), (815, .iadd, 1, 0, 0, 0), (816, .iaload, 1, 0, 0, 0), (817, .invokevirtual 118, 3, 93, 1, 0), (820, .aload_n 2, 1, 0, 0, 0), (821, .aload_n 0, 1, 0, 0, 0), (822, .iload_n 3, 1, 0, 0, 0), (823, .iconst 1, 1, 0, 0, 0), (824, .iadd, 1, 0, 0, 0), (825, .iaload, 1, 0, 0, 0), (826, .invokevirtual 121, 3, 182, 1, 0), (829, .if_icmp .eq 19, 3, 0, 0, 0), (832, .iconst 0, 1, 0, 0, 0), (833, .ireturn, 1, 0, 0, 0), (834, .aload_n 1, 1, 0, 0, 0), (835, .invokevirtual 122, 3, 94, 0, 0), (838, .aload_n 2, 1, 0, 0, 0), (839, .invokevirtual 126, 3, 186, 0, 0), (842, .lcmp, 1, 0, 0, 0), (843, .ifCond .eq 5, 3, 0, 0, 0), (846, .iconst 0, 1, 0, 0, 0), (847, .ireturn, 1, 0, 0, 0), (848, .iinc 3 5, 3, 0, 0, 0), (851, .goto (-833), 3, 0, 0, 0), (854, .iconst 1, 1, 0, 0, 0), (855, .ireturn, 1, 0, 0, 0)]
def px_tabs : List (List (Nat × px_K)) := [px_t0, px_t1, px_t2, px_t3, px_t4, px_t5, px_t6, px_t7, px_t8, px_t9, px_t10, px_t11, px_t12, px_t13, px_t14, px_t15, px_t16, px_t17, px_t18, px_t19, px_t20, px_t21, px_t22, px_t23, px_t24, px_t25, px_t26, px_t27, px_t28, px_t29, px_t30, px_t31, px_t32, px_t33, px_t34, px_t35, px_t36, px_t37, px_t38, px_t39, px_t40, px_t41, px_t42, px_t43, px_t44, px_t45, px_t46, px_t47, px_t48, px_t49, px_t50, px_t51, px_t52, px_t53, px_t54, px_t55, px_t56, px_t57, px_t58, px_t59, px_t60, px_t61, px_t62, px_t63, px_t64, px_t65, px_t66, px_t67, px_t68, px_t69, px_t70, px_t71, px_t72, px_t73, px_t74, px_t75, px_t76, px_t77, px_t78, px_t79, px_t80, px_t81, px_t82, px_t83, px_t84, px_t85, px_t86, px_t87, px_t88, px_t89, px_t90, px_t91, px_t92, px_t93, px_t94, px_t95, px_t96, px_t97, px_t98, px_t99, px_t100, px_t101, px_t102, px_t103, px_t104, px_t105, px_t106, px_t107, px_t108, px_t109, px_t110, px_t111, px_t112, px_t113, px_t114, px_t115, px_t116, px_t117, px_t118, px_t119, px_t120, px_t121, px_t122, px_t123, px_t124, px_t125, px_t126, px_t127, px_t128, px_t129, px_t130, px_t131, px_t132, px_t133, px_t134, px_t135, px_t136, px_t137, px_t138, px_t139, px_t140, px_t141, px_t142, px_t143, px_t144, px_t145, px_t146, px_t147, px_t148, px_t149, px_t150, px_t151, px_t152, px_t153, px_t154, px_t155, px_t156, px_t157, px_t158, px_t159, px_t160, px_t161, px_t162, px_t163, px_t164, px_t165, px_t166, px_t167, px_t168, px_t169, px_t170, px_t171, px_t172, px_t173, px_t174, px_t175, px_t176, px_t177, px_t178, px_t179, px_t180, px_t181, px_t182, px_t183, px_t184, px_t185, px_t186, px_t187, px_t188]
def px_tab (m : Nat) : List (Nat × px_K) := px_tabs.getD m []
def px_at (m pc : Nat) : Option px_K := (px_tab m).lookup pc
def px_ys : List MethodName := [yX0_init, yX0_rowPart, yX0_writeRowPart, yX0_padCount, yX0_writePadCount, yX0_padPart, yX0_writePadPart, yX0_saveCount, yX0_saveAddress, yX0_saveRegister, yX0_saveCell, yX0_addSave, yX0_countPads, yX0_countSavingAddresses, yX0_isAnythingSaved, yX1_init, yX1_draw, yX1_doOne, yX1_throwDrawn, yX2_init, yX2_empty, yX2_add, yX2_takeLatest, yX2_become, yX3_init, yX3_init_, yX3_levelOf, yX3_latestAddress, yX3_enter, yX3_step, yX3_saveAtLatest, yX3_leave, yX3_behindBack, yX3_callerOf, yX3_catcherOf, yX3_deedAt, yX3_countFinishing, yX3_unwindTo, yX3_finishAtLatest, yX4_init, yX4_write, yX4_codeAt, yX4_digitAt, yX5_init, yX5_firstFault, yX5_mayEnd, yX5_takes, yX5_takesOp, yX5_takesOpLetter, yX5_takesFarther, yX5_takesDigit, yX5_takesBetweenPads, yX5_beginFunction, yX6_init, yX6_writeText, yX6_writeProgram, yX6_writeOp, yX6_save, yX6_free, yX6_rememberOrGoBack, yX6_writeRowsTo, yX6_writePads, yX7_init, yX7_note, yX7_sortsOf, yX7_canBe, yX7_become, yX8_init, yX8_letter, yX8_blank, yX8_fault, yX8_text, yX8_row, yX8_pad, yX8_as, yX8_frame, yX8_register, yX8_call, yX8_go, yX8_set, yX8_back, yX8_raise, yX8_change, yX8_undo, yX8_search, yX8_loose, yX8_finished, yX8_same, yX8_see, yX8_forget, yX8_drawn, yX8_image, yX8_restore, yX8_count, yX8_digest, yX8_digestFunction, yX8_digestThrowing, yX8_folded, yX8_hasText, yX8_isFunction, yX8_isPad, yX8_beginDoing, yX8_isBelow, yX8_slot, yX8_kindOfLetter, yX8_isOfKind, yX8_deedOf, yX8_bestToThrow, yX8_leftAtWorst, yX9_init, yX9_in, yX9_letter, yX9_blank, yX9_kindBy, yX9_beginFunction, yX9_digitsOf, yX9_endOp, yX9_isOpBegun, yX9_isOpDigit, yX9_isPadBegun, yX9_isPadDigit, yX9_isGood, yX9_faultOf, yX9_fault, yX9_copy, yX9_doOp, yX9_layFunction, yX9_text, yX9_lacks, yX9_isFunction, yX9_isPad, yX9_keep, yX9_undo, yX9_frames, yX9_frameAt, yX9_saveAt, yX9_doCall, yX9_doGo, yX9_doBack, yX9_call, yX9_go, yX9_set, yX9_back, yX9_isCatching, yX9_does, yX9_doesAt, yX9_layCatcher, yX9_searchOf, yX9_search, yX9_finish, yX9_doRaise, yX9_raise, yX9_looseOf, yX9_loose, yX9_finished, yX9_change, yX9_tellRow, yX9_row, yX9_tellPad, yX9_pad, yX9_as, yX9_callerOf, yX9_tellFrame, yX9_frame, yX9_register, yX9_same, yX9_see, yX9_forget, yX9_sortsOf, yX9_askOf, yX9_draw, yX9_drawCall, yX9_drawGo, yX9_drawSet, yX9_drawRaise, yX9_drawOne, yX9_drawn, yX9_image, yX9_restore, yX9_padsAll, yX9_savedMany, yX9_countOf, yX9_count, yX9_say, yX9_sayFunction, yX9_sayText, yX9_digest, yJ7_fill_53178, yL_law]
def px_y (m : Nat) : MethodName := px_ys.getD m yL_law
def px_cs : List ByteArray := [cX0_init, cX0_rowPart, cX0_writeRowPart, cX0_padCount, cX0_writePadCount, cX0_padPart, cX0_writePadPart, cX0_saveCount, cX0_saveAddress, cX0_saveRegister, cX0_saveCell, cX0_addSave, cX0_countPads, cX0_countSavingAddresses, cX0_isAnythingSaved, cX1_init, cX1_draw, cX1_doOne, cX1_throwDrawn, cX2_init, cX2_empty, cX2_add, cX2_takeLatest, cX2_become, cX3_init, cX3_init_, cX3_levelOf, cX3_latestAddress, cX3_enter, cX3_step, cX3_saveAtLatest, cX3_leave, cX3_behindBack, cX3_callerOf, cX3_catcherOf, cX3_deedAt, cX3_countFinishing, cX3_unwindTo, cX3_finishAtLatest, cX4_init, cX4_write, cX4_codeAt, cX4_digitAt, cX5_init, cX5_firstFault, cX5_mayEnd, cX5_takes, cX5_takesOp, cX5_takesOpLetter, cX5_takesFarther, cX5_takesDigit, cX5_takesBetweenPads, cX5_beginFunction, cX6_init, cX6_writeText, cX6_writeProgram, cX6_writeOp, cX6_save, cX6_free, cX6_rememberOrGoBack, cX6_writeRowsTo, cX6_writePads, cX7_init, cX7_note, cX7_sortsOf, cX7_canBe, cX7_become, cX8_init, cX8_letter, cX8_blank, cX8_fault, cX8_text, cX8_row, cX8_pad, cX8_as, cX8_frame, cX8_register, cX8_call, cX8_go, cX8_set, cX8_back, cX8_raise, cX8_change, cX8_undo, cX8_search, cX8_loose, cX8_finished, cX8_same, cX8_see, cX8_forget, cX8_drawn, cX8_image, cX8_restore, cX8_count, cX8_digest, cX8_digestFunction, cX8_digestThrowing, cX8_folded, cX8_hasText, cX8_isFunction, cX8_isPad, cX8_beginDoing, cX8_isBelow, cX8_slot, cX8_kindOfLetter, cX8_isOfKind, cX8_deedOf, cX8_bestToThrow, cX8_leftAtWorst, cX9_init, cX9_in, cX9_letter, cX9_blank, cX9_kindBy, cX9_beginFunction, cX9_digitsOf, cX9_endOp, cX9_isOpBegun, cX9_isOpDigit, cX9_isPadBegun, cX9_isPadDigit, cX9_isGood, cX9_faultOf, cX9_fault, cX9_copy, cX9_doOp, cX9_layFunction, cX9_text, cX9_lacks, cX9_isFunction, cX9_isPad, cX9_keep, cX9_undo, cX9_frames, cX9_frameAt, cX9_saveAt, cX9_doCall, cX9_doGo, cX9_doBack, cX9_call, cX9_go, cX9_set, cX9_back, cX9_isCatching, cX9_does, cX9_doesAt, cX9_layCatcher, cX9_searchOf, cX9_search, cX9_finish, cX9_doRaise, cX9_raise, cX9_looseOf, cX9_loose, cX9_finished, cX9_change, cX9_tellRow, cX9_row, cX9_tellPad, cX9_pad, cX9_as, cX9_callerOf, cX9_tellFrame, cX9_frame, cX9_register, cX9_same, cX9_see, cX9_forget, cX9_sortsOf, cX9_askOf, cX9_draw, cX9_drawCall, cX9_drawGo, cX9_drawSet, cX9_drawRaise, cX9_drawOne, cX9_drawn, cX9_image, cX9_restore, cX9_padsAll, cX9_savedMany, cX9_countOf, cX9_count, cX9_say, cX9_sayFunction, cX9_sayText, cX9_digest, cJ7_fill_53178, cL_law]
def px_c (m : Nat) : ByteArray := px_cs.getD m cL_law
def px_mls : List Nat := [1, 4, 5, 2, 3, 4, 5, 2, 3, 3, 3, 6, 3, 4, 4, 2, 2, 3, 4, 1, 1, 2, 2, 3, 4, 2, 2, 1, 3, 1, 4, 2, 5, 5, 5, 6, 6, 5, 5, 1, 2, 2, 2, 1, 3, 1, 2, 2, 2, 2, 6, 2, 1, 3, 2, 3, 4, 4, 2, 2, 5, 4, 1, 4, 5, 5, 2, 1, 2, 2, 1, 3, 4, 6, 4, 4, 2, 2, 3, 4, 1, 3, 5, 1, 4, 3, 2, 5, 5, 2, 8, 1, 1, 2, 5, 8, 7, 4, 1, 2, 3, 1, 2, 2, 1, 2, 3, 6, 7, 1, 6, 2, 2, 1, 1, 1, 1, 3, 3, 2, 4, 3, 2, 1, 3, 6, 7, 3, 1, 2, 3, 2, 2, 1, 2, 6, 4, 4, 4, 2, 2, 4, 1, 3, 3, 6, 6, 3, 3, 5, 4, 2, 3, 1, 2, 5, 4, 4, 4, 4, 5, 7, 3, 3, 2, 5, 5, 2, 9, 12, 2, 2, 1, 2, 2, 1, 6, 1, 1, 3, 5, 2, 2, 3, 4, 2, 3, 4, 4]
def px_ml (m : Nat) : Nat := px_mls.getD m 4
def px_rts : List (Option FieldType) := [none, (some .int), none, (some .int), none, (some .int), none, (some .int), (some .int), (some .int), (some .int), none, (some .int), (some .int), (some .boolean), none, (some .int), (some .boolean), (some .boolean), none, none, none, (some (.object "RowUnwinder$Machine")), none, none, none, (some .int), (some .int), none, none, none, none, (some .int), (some .int), (some .int), (some .int), (some .int), none, none, none, none, (some .int), (some .int), none, (some .int), (some .boolean), (some .boolean), (some .boolean), (some .boolean), (some .boolean), (some .boolean), (some .boolean), none, none, none, none, none, none, none, none, none, none, none, none, (some .int), (some .boolean), none, none, (some .int), (some .int), (some .int), (some .int), (some .int), (some .int), (some .int), (some .int), (some .int), (some .int), (some .int), (some .int), (some .int), (some .int), (some .int), (some .int), (some .int), (some .int), (some .int), (some .int), (some .int), (some .int), (some .int), (some .int), (some .int), (some .int), (some .long), (some .long), (some .long), (some .long), (some .boolean), (some .boolean), (some .boolean), none, (some .boolean), (some .int), (some .int), (some .boolean), (some .int), (some .int), (some .int), none, (some .boolean), (some .int), (some .int), (some .int), none, (some .int), none, (some .boolean), (some .boolean), (some .boolean), (some .boolean), (some .boolean), (some .int), (some .int), none, none, none, (some .int), (some .boolean), (some .boolean), (some .boolean), none, (some .int), (some .int), (some .int), none, none, none, none, (some .int), (some .int), (some .int), (some .int), (some .boolean), (some .int), (some .int), none, (some .int), (some .int), none, none, (some .int), (some .int), (some .int), (some .int), (some .int), (some .int), (some .int), (some .int), (some .int), (some .int), (some .int), (some .int), (some .int), (some .int), (some .int), (some .int), (some .int), (some .int), (some .int), (some .int), none, none, none, (some .int), (some .int), (some .int), (some .int), (some .int), (some .int), (some .int), (some .int), (some .int), none, none, none, (some .long), none, (some .boolean)]
def px_rt (m : Nat) : Option FieldType := px_rts.getD m none
def px_frs : List Nat := [1, 0, 0, 0, 0, 0, 0, 0, 0, 0, 0, 0, 0, 2, 1, 1, 0, 5, 4, 1, 0, 1, 0, 0, 1, 1, 0, 0, 2, 2, 1, 2, 1, 2, 2, 1, 2, 3, 2, 1, 0, 1, 2, 1, 3, 0, 2, 1, 0, 0, 0, 1, 0, 1, 5, 4, 3, 1, 1, 1, 1, 3, 1, 0, 2, 1, 1, 2, 1, 0, 4, 6, 2, 3, 3, 3, 1, 3, 3, 3, 3, 4, 3, 1, 3, 3, 1, 2, 3, 0, 6, 2, 2, 3, 5, 4, 4, 0, 0, 1, 2, 2, 0, 0, 0, 0, 0, 2, 1, 1, 0, 1, 0, 0, 0, 0, 1, 2, 2, 1, 1, 3, 4, 5, 0, 0, 1, 5, 0, 1, 2, 0, 0, 0, 0, 0, 1, 1, 1, 2, 2, 1, 2, 0, 1, 2, 3, 4, 5, 3, 4, 5, 5, 6, 1, 3, 0, 2, 4, 5, 3, 1, 2, 3, 1, 2, 3, 0, 2, 3, 0, 2, 2, 1, 5, 6, 7, 1, 1, 0, 0, 1, 2, 0, 5, 6, 7, 0, 8]
def px_fr (m : Nat) : Nat := px_frs.getD m 0
def px_los : List Nat := [30, 0, 0, 0, 0, 0, 0, 0, 0, 0, 0, 0, 0, 46, 23, 30, 0, 119, 96, 30, 0, 30, 0, 0, 30, 30, 0, 0, 45, 45, 22, 47, 23, 47, 48, 23, 48, 72, 48, 30, 0, 21, 42, 30, 63, 0, 42, 21, 0, 0, 0, 20, 0, 30, 108, 86, 63, 25, 21, 30, 24, 63, 30, 0, 46, 22, 30, 53, 21, 0, 85, 129, 42, 81, 64, 71, 21, 71, 71, 71, 71, 96, 71, 21, 73, 72, 21, 42, 64, 0, 141, 51, 51, 69, 133, 106, 96, 0, 0, 21, 42, 51, 0, 0, 0, 0, 0, 56, 30, 30, 0, 25, 0, 0, 0, 0, 20, 40, 40, 20, 25, 62, 84, 105, 0, 0, 25, 105, 0, 25, 46, 0, 0, 0, 0, 0, 25, 25, 21, 48, 48, 25, 44, 0, 22, 44, 69, 94, 116, 69, 93, 116, 116, 138, 25, 68, 0, 46, 103, 126, 68, 21, 47, 69, 25, 46, 68, 0, 44, 72, 0, 48, 48, 21, 116, 137, 157, 22, 22, 0, 0, 24, 45, 0, 126, 138, 159, 0, 182]
def px_lo (m : Nat) : Nat := px_los.getD m 0
def px_os : List Nat := [0, 0, 0, 0, 0, 0, 0, 0, 0, 0, 0, 0, 0, 0, 0, 1, 1, 1, 1, 2, 2, 2, 2, 2, 3, 3, 3, 3, 3, 3, 3, 3, 3, 3, 3, 3, 3, 3, 3, 4, 4, 4, 4, 5, 5, 5, 5, 5, 5, 5, 5, 5, 5, 6, 6, 6, 6, 6, 6, 6, 6, 6, 7, 7, 7, 7, 7, 8, 8, 8, 8, 8, 8, 8, 8, 8, 8, 8, 8, 8, 8, 8, 8, 8, 8, 8, 8, 8, 8, 8, 8, 8, 8, 8, 8, 8, 8, 8, 8, 8, 8, 8, 8, 8, 8, 8, 8, 8, 8, 9, 9, 9, 9, 9, 9, 9, 9, 9, 9, 9, 9, 9, 9, 9, 9, 9, 9, 9, 9, 9, 9, 9, 9, 9, 9, 9, 9, 9, 9, 9, 9, 9, 9, 9, 9, 9, 9, 9, 9, 9, 9, 9, 9, 9, 9, 9, 9, 9, 9, 9, 9, 9, 9, 9, 9, 9, 9, 9, 9, 9, 9, 9, 9, 9, 9, 9, 9, 9, 9, 9, 9, 9, 9, 9, 9, 9, 9, 11, 10]
def px_o (m : Nat) : Nat := px_os.getD m 0
def px_Rs : List String := [RX0, RX1, RX2, RX3, RX4, RX5, RX6, RX7, RX8, RX9, RL, RJ7]
def px_R (c : Nat) : String := px_Rs.getD c RL
abbrev px_cl : List vw_C := [(RX0, TX0, 6), (RX1, TX1, 1), (RX2, TX2, 3), (RX3, TX3, 9), (RX4, TX4, 2), (RX5, TX5, 7), (RX6, TX6, 8), (RX7, TX7, 4), (RX8, TX8, 8), (RX9, TX9, 42)]
def px_Ts : List u_T := [TX0, TX1, TX2, TX3, TX4, TX5, TX6, TX7, TX8, TX9]
def px_T (c : Nat) : u_T := px_Ts.getD c TX0
def px_tys : List (Nat → FieldType) := [tyX0, tyX1, tyX2, tyX3, tyX4, tyX5, tyX6, tyX7, tyX8, tyX9]
def px_ty (c : Nat) : Nat → FieldType := px_tys.getD c tyX0
def px_Ns : List Nat := [6, 1, 3, 9, 2, 7, 8, 4, 8, 42]
def px_N (c : Nat) : Nat := px_Ns.getD c 0
def px_dfs : List (List Value) := [[.int 0, .null, .null, .null, .null, .null], [.long 0], [.null, .int 0, .int 0], [.null, .null, .null, .null, .null, .null, .null, .int 0, .int 0], [.null, .int 0], [.int 0, .int 0, .int 0, .int 0, .int 0, .int 0, .int 0], [.null, .null, .null, .null, .int 0, .int 0, .int 0, .int 0], [.null, .null, .null, .int 0], [.null, .null, .null, .null, .null, .null, .null, .int 0], [.null, .int 0, .int 0, .int 0, .int 0, .int 0, .int 0, .int 0, .int 0, .int 0, .null, .null, .null, .null, .int 0, .int 0, .null, .null, .null, .null, .null, .null, .null, .null, .int 0, .null, .null, .int 0, .int 0, .int 0, .int 0, .int 0, .null, .int 0, .null, .int 0, .int 0, .int 0, .null, .null, .null, .long 0]]
def px_df (c : Nat) : List Value := px_dfs.getD c []
def px_fl : List (Nat × Nat × Nat × Nat × Nat) := [(0, 9, 0, 0, 156), (0, 15, 0, 1, 161), (0, 19, 0, 2, 162), (0, 22, 0, 3, 163), (0, 25, 0, 4, 164), (0, 28, 0, 5, 165), (1, 9, 1, 0, 676), (1, 27, 3, 0, 195), (1, 33, 0, 0, 159), (1, 50, 3, 2, 200), (2, 11, 2, 0, 117), (2, 17, 2, 1, 118), (2, 21, 2, 2, 119), (3, 9, 3, 0, 194), (3, 15, 3, 1, 197), (3, 19, 3, 2, 199), (3, 22, 3, 3, 202), (3, 25, 3, 4, 204), (3, 28, 3, 5, 206), (3, 31, 3, 6, 208), (3, 34, 3, 7, 210), (3, 38, 3, 8, 212), (3, 41, 0, 0, 157), (4, 9, 4, 0, 98), (4, 15, 4, 1, 99), (5, 11, 5, 0, 280), (5, 15, 5, 1, 281), (5, 18, 5, 2, 282), (5, 21, 5, 3, 283), (5, 24, 5, 4, 284), (5, 27, 5, 5, 285), (5, 30, 5, 6, 286), (5, 33, 4, 1, 100), (6, 9, 6, 2, 360), (6, 15, 6, 3, 361), (6, 18, 6, 4, 362), (6, 22, 6, 5, 363), (6, 25, 6, 6, 364), (6, 28, 6, 7, 365), (6, 31, 6, 0, 358), (6, 35, 6, 1, 359), (6, 39, 4, 1, 101), (6, 51, 0, 0, 158), (7, 9, 7, 0, 134), (7, 15, 7, 1, 135), (7, 18, 7, 2, 136), (7, 21, 7, 3, 137), (8, 10, 8, 0, 233), (8, 19, 8, 1, 234), (8, 23, 8, 2, 235), (8, 29, 8, 3, 236), (8, 33, 8, 4, 237), (8, 44, 8, 5, 238), (8, 48, 8, 6, 239), (8, 51, 8, 7, 240), (8, 55, 4, 1, 102), (8, 84, 7, 3, 138), (8, 87, 0, 0, 160), (8, 98, 3, 0, 196), (8, 109, 3, 1, 198), (8, 129, 3, 7, 211), (8, 136, 3, 3, 203), (8, 138, 3, 4, 205), (8, 141, 3, 5, 207), (8, 147, 3, 2, 201), (8, 176, 2, 2, 120), (8, 184, 3, 8, 213), (8, 187, 3, 6, 209), (8, 205, 1, 0, 677), (9, 7, 9, 0, 768), (9, 13, 9, 10, 778), (9, 16, 9, 11, 779), (9, 19, 9, 12, 780), (9, 22, 9, 13, 781), (9, 25, 9, 16, 784), (9, 28, 9, 17, 785), (9, 31, 9, 18, 786), (9, 34, 9, 19, 787), (9, 37, 9, 20, 788), (9, 40, 9, 21, 789), (9, 43, 9, 22, 790), (9, 46, 9, 23, 791), (9, 49, 9, 25, 793), (9, 52, 9, 26, 794), (9, 55, 9, 32, 800), (9, 58, 9, 34, 802), (9, 61, 9, 38, 806), (9, 64, 9, 39, 807), (9, 67, 9, 40, 808), (9, 70, 9, 35, 803), (9, 80, 9, 1, 769), (9, 83, 9, 3, 771), (9, 86, 9, 4, 772), (9, 89, 9, 5, 773), (9, 93, 9, 6, 774), (9, 96, 9, 8, 776), (9, 99, 9, 9, 777), (9, 102, 9, 7, 775), (9, 109, 9, 2, 770), (9, 153, 9, 24, 792), (9, 160, 9, 14, 782), (9, 171, 9, 27, 795), (9, 174, 9, 31, 799), (9, 177, 9, 15, 783), (9, 222, 9, 28, 796), (9, 225, 9, 29, 797), (9, 228, 9, 30, 798), (9, 283, 9, 33, 801), (9, 311, 9, 36, 804), (9, 314, 9, 37, 805), (9, 328, 9, 41, 809)]
def px_nl : List (Nat × Nat × Nat × Nat × Nat × Nat) := [(2, 9, 3, 115, 149, 75), (8, 7, 4, 92, 93, 72), (8, 16, 2, 109, 110, 73), (8, 26, 7, 128, 129, 74), (8, 36, 3, 148, 149, 75), (8, 38, 0, 150, 151, 76), (8, 62, 5, 274, 275, 78), (8, 73, 6, 352, 353, 79), (8, 197, 1, 670, 671, 83), (10, 7, 8, 84, 85, 71), (10, 10, 9, 762, 763, 77)]
def px_il : List (Nat × Nat × Nat) := [(3, 58, 546)]
def px_jl : List (Nat × Nat × Nat × Nat × Nat) := [(0, 31, 14, 0, 731), (0, 35, 1, 0, 735), (1, 23, 16, 0, 685), (1, 39, 28, 0, 693), (1, 43, 27, 0, 694), (1, 47, 29, 0, 695), (1, 54, 18, 0, 696), (1, 58, 34, 0, 700), (1, 61, 37, 0, 701), (3, 45, 3, 0, 183), (3, 49, 103, 1, 187), (3, 53, 5, 0, 190), (3, 62, 30, 0, 551), (3, 65, 7, 0, 555), (3, 68, 8, 0, 559), (3, 71, 10, 0, 563), (3, 74, 9, 0, 567), (3, 77, 32, 0, 513), (3, 80, 1, 0, 517), (3, 83, 26, 0, 607), (3, 86, 35, 0, 608), (3, 89, 106, 1, 612), (3, 92, 38, 0, 617), (3, 96, 31, 0, 621), (4, 19, 102, 1, 310), (4, 23, 41, 0, 403), (5, 38, 41, 0, 306), (5, 42, 46, 0, 313), (5, 46, 47, 0, 317), (5, 49, 49, 0, 325), (5, 52, 50, 0, 329), (5, 56, 51, 0, 333), (5, 59, 48, 0, 321), (5, 62, 52, 0, 337), (5, 65, 104, 1, 341), (6, 44, 55, 0, 387), (6, 48, 61, 0, 432), (6, 56, 187, 0, 391), (6, 62, 41, 0, 394), (6, 66, 56, 0, 395), (6, 69, 60, 0, 404), (6, 73, 42, 0, 399), (6, 76, 57, 0, 412), (6, 80, 58, 0, 421), (6, 83, 59, 0, 425), (6, 86, 102, 1, 416), (6, 90, 11, 0, 417), (6, 100, 2, 0, 408), (6, 103, 104, 1, 436), (6, 106, 6, 0, 437), (6, 109, 4, 0, 441), (7, 25, 65, 0, 477), (7, 29, 106, 1, 481), (8, 9, 39, 1, 94), (8, 18, 19, 1, 111), (8, 28, 62, 1, 130), (8, 40, 0, 1, 152), (8, 41, 24, 0, 179), (8, 58, 40, 0, 262), (8, 64, 43, 1, 276), (8, 65, 44, 0, 302), (8, 69, 45, 0, 348), (8, 75, 53, 0, 354), (8, 78, 54, 0, 383), (8, 81, 20, 0, 445), (8, 90, 99, 0, 453), (8, 94, 102, 0, 457), (8, 102, 1, 0, 458), (8, 106, 100, 0, 466), (8, 113, 103, 0, 471), (8, 117, 5, 0, 472), (8, 120, 64, 0, 473), (8, 123, 107, 0, 484), (8, 126, 105, 0, 498), (8, 132, 26, 0, 505), (8, 144, 33, 0, 509), (8, 150, 101, 0, 526), (8, 153, 28, 0, 547), (8, 156, 27, 0, 575), (8, 160, 29, 0, 579), (8, 163, 98, 0, 587), (8, 166, 31, 0, 595), (8, 169, 34, 0, 603), (8, 172, 37, 0, 613), (8, 177, 22, 0, 630), (8, 181, 36, 0, 638), (8, 190, 63, 0, 658), (8, 194, 25, 0, 537), (8, 199, 15, 0, 672), (8, 201, 17, 0, 681), (8, 209, 23, 0, 706), (8, 213, 66, 0, 710), (8, 216, 12, 0, 723), (8, 219, 13, 0, 727), (8, 224, 95, 0, 741), (8, 228, 75, 0, 751), (8, 231, 97, 0, 746), (8, 235, 76, 0, 752), (8, 238, 96, 0, 753), (8, 242, 86, 0, 759), (8, 244, 41, 0, 760), (8, 247, 93, 0, 761), (8, 250, 72, 0, 745), (8, 253, 3, 0, 470), (8, 256, 73, 0, 750), (8, 259, 84, 0, 757), (8, 262, 85, 0, 758), (8, 267, 21, 0, 530), (8, 270, 108, 0, 487), (8, 273, 106, 0, 490), (9, 76, 110, 0, 900), (9, 105, 115, 0, 945), (9, 112, 116, 0, 941), (9, 125, 114, 0, 915), (9, 128, 113, 0, 927), (9, 133, 119, 0, 923), (9, 137, 120, 0, 930), (9, 140, 117, 0, 937), (9, 143, 118, 0, 948), (9, 146, 121, 0, 919), (9, 149, 122, 0, 911), (9, 156, 125, 0, 966), (9, 163, 124, 0, 959), (9, 167, 126, 0, 962), (9, 180, 129, 0, 978), (9, 183, 134, 0, 994), (9, 186, 135, 0, 998), (9, 189, 133, 0, 982), (9, 192, 131, 0, 986), (9, 195, 136, 0, 990), (9, 200, 137, 0, 1007), (9, 207, 128, 0, 1017), (9, 211, 138, 0, 1025), (9, 214, 143, 0, 1050), (9, 218, 144, 0, 1047), (9, 231, 145, 0, 1043), (9, 235, 146, 0, 1039), (9, 242, 147, 0, 1035), (9, 246, 149, 0, 1061), (9, 249, 150, 0, 1057), (9, 252, 152, 0, 1069), (9, 255, 130, 0, 1081), (9, 261, 156, 0, 1090), (9, 264, 168, 0, 1102), (9, 267, 169, 0, 1106), (9, 270, 158, 0, 1098), (9, 273, 161, 0, 1123), (9, 278, 162, 0, 1119), (9, 291, 170, 0, 1152), (9, 294, 171, 0, 1160), (9, 297, 172, 0, 1164), (9, 300, 173, 0, 1168), (9, 303, 174, 0, 1172), (9, 308, 175, 0, 1148), (9, 317, 179, 0, 1192), (9, 320, 180, 0, 1196), (9, 323, 181, 0, 1188), (9, 332, 183, 0, 1209), (9, 338, 184, 0, 1205), (9, 341, 185, 0, 1214), (10, 9, 67, 0, 86), (10, 12, 109, 0, 764), (10, 13, 68, 0, 258), (10, 17, 111, 0, 895), (10, 18, 69, 0, 266), (10, 22, 112, 0, 903), (10, 23, 70, 0, 270), (10, 26, 123, 0, 907), (10, 27, 71, 0, 344), (10, 30, 127, 0, 955), (10, 31, 72, 0, 449), (10, 35, 157, 0, 1085), (10, 36, 73, 0, 462), (10, 39, 159, 0, 1094), (10, 40, 74, 0, 494), (10, 43, 160, 0, 1110), (10, 44, 75, 0, 501), (10, 48, 163, 0, 1114), (10, 49, 76, 0, 518), (10, 52, 164, 0, 1127), (10, 53, 77, 0, 522), (10, 56, 139, 0, 974), (10, 57, 78, 0, 571), (10, 60, 140, 0, 1002), (10, 61, 79, 0, 583), (10, 64, 141, 0, 1011), (10, 65, 80, 0, 591), (10, 68, 142, 0, 1021), (10, 69, 81, 0, 599), (10, 72, 151, 0, 1053), (10, 73, 82, 0, 622), (10, 76, 155, 0, 1077), (10, 77, 83, 0, 626), (10, 80, 132, 0, 970), (10, 81, 84, 0, 634), (10, 84, 148, 0, 1029), (10, 85, 85, 0, 642), (10, 88, 153, 0, 1065), (10, 89, 86, 0, 646), (10, 92, 154, 0, 1073), (10, 93, 87, 0, 650), (10, 96, 165, 0, 1131), (10, 97, 88, 0, 654), (10, 101, 166, 0, 1135), (10, 102, 89, 0, 662), (10, 105, 167, 0, 1139), (10, 106, 90, 0, 666), (10, 109, 176, 0, 1143), (10, 110, 91, 0, 702), (10, 113, 177, 0, 1176), (10, 114, 92, 0, 715), (10, 117, 178, 0, 1180), (10, 118, 93, 0, 719), (10, 121, 182, 0, 1184), (10, 122, 94, 0, 736), (10, 126, 186, 0, 1200)]
def px_xl : List (Nat × Nat × Nat × Nat) := [(0, 3, 1000, 155), (1, 3, 1000, 675), (2, 3, 1000, 114), (2, 24, 1004, 534), (3, 3, 1000, 182), (3, 57, 1002, 540), (4, 3, 1000, 97), (5, 3, 1000, 279), (6, 3, 1000, 357), (6, 94, 1001, 429), (7, 3, 1000, 133), (7, 33, 1001, 714), (8, 1, 1000, 89), (8, 276, 1003, 491), (9, 1, 1000, 767)]
def px_kl : List (Nat × Nat × Int × Nat × Nat) := [(1, 15, 1103515245, 1, 689), (1, 17, 12345, 1, 690), (1, 19, 2147483648, 1, 691), (1, 21, 65536, 1, 692), (8, 222, 1399, 1, 740), (8, 265, 31, 1, 749), (9, 74, 126, 1, 899), (9, 115, 49, 1, 952), (9, 117, 57, 1, 936), (9, 119, 48, 1, 934), (9, 121, 51, 1, 953), (9, 123, 53, 1, 954), (9, 131, 52, 1, 935), (9, 198, 9, 1, 1006), (9, 203, 3, 1, 1015), (9, 205, 999, 1, 1016), (9, 238, 4, 1, 1033), (9, 240, 2, 1, 1034), (9, 259, 5, 1, 1089), (9, 276, 11, 1, 1118), (9, 281, 1103515245, 1, 1156), (9, 286, 12345, 1, 1157), (9, 288, 2147483647, 1, 1158), (9, 290, 65536, 0, 1159), (9, 306, 99, 1, 1147), (9, 326, 31, 1, 1213), (9, 336, 1399, 1, 1204)]
def px_msl : List (Nat × Nat × Nat × Nat × Nat) := [(154, 0, 153, 9999, 76), (461, 0, 459, 460, 76), (411, 0, 409, 410, 76), (186, 0, 184, 185, 76), (444, 0, 442, 443, 76), (193, 0, 191, 192, 76), (440, 0, 438, 439, 76), (558, 0, 556, 557, 76), (562, 0, 560, 561, 76), (570, 0, 568, 569, 76), (566, 0, 564, 565, 76), (420, 0, 418, 419, 76), (726, 0, 724, 725, 76), (730, 0, 728, 729, 76), (734, 0, 733, 23, 76), (674, 0, 673, 9999, 83), (688, 0, 686, 687, 83), (684, 0, 682, 683, 83), (699, 0, 698, 22, 83), (113, 0, 112, 9999, 73), (448, 0, 446, 447, 73), (533, 0, 531, 532, 73), (633, 0, 631, 632, 73), (709, 0, 707, 708, 73), (181, 0, 180, 9999, 75), (539, 0, 538, 9999, 75), (508, 0, 506, 507, 75), (578, 0, 576, 577, 75), (550, 0, 548, 549, 75), (582, 0, 580, 581, 75), (554, 0, 553, 18, 75), (598, 0, 596, 597, 75), (516, 0, 515, 16, 75), (512, 0, 510, 511, 75), (606, 0, 604, 605, 75), (611, 0, 610, 20, 75), (641, 0, 639, 640, 75), (616, 0, 614, 615, 75), (620, 0, 619, 21, 75), (96, 0, 95, 9999, 72), (265, 0, 263, 264, 72), (309, 0, 307, 308, 72), (402, 0, 400, 401, 72), (278, 0, 277, 9999, 78), (305, 0, 303, 304, 78), (351, 0, 349, 350, 78), (316, 0, 314, 315, 78), (320, 0, 319, 0, 78), (324, 0, 323, 1, 78), (328, 0, 327, 2, 78), (332, 0, 331, 3, 78), (336, 0, 335, 4, 78), (340, 0, 339, 5, 78), (356, 0, 355, 9999, 79), (386, 0, 384, 385, 79), (390, 0, 389, 6, 79), (398, 0, 397, 7, 79), (415, 0, 414, 9, 79), (424, 0, 423, 10, 79), (428, 0, 427, 11, 79), (407, 0, 406, 8, 79), (435, 0, 434, 12, 79), (132, 0, 131, 9999, 74), (661, 0, 659, 660, 74), (476, 0, 474, 475, 74), (480, 0, 479, 15, 74), (713, 0, 711, 712, 74), (88, 0, 87, 9999, 71), (261, 0, 259, 260, 71), (269, 0, 267, 268, 71), (273, 0, 271, 272, 71), (347, 0, 345, 346, 71), (452, 0, 450, 451, 71), (465, 0, 463, 464, 71), (497, 0, 495, 496, 71), (504, 0, 502, 503, 71), (521, 0, 519, 520, 71), (525, 0, 523, 524, 71), (574, 0, 572, 573, 71), (586, 0, 584, 585, 71), (594, 0, 592, 593, 71), (602, 0, 600, 601, 71), (625, 0, 623, 624, 71), (629, 0, 627, 628, 71), (637, 0, 635, 636, 71), (645, 0, 643, 644, 71), (649, 0, 647, 648, 71), (653, 0, 651, 652, 71), (657, 0, 655, 656, 71), (665, 0, 663, 664, 71), (669, 0, 667, 668, 71), (705, 0, 703, 704, 71), (718, 0, 716, 717, 71), (722, 0, 720, 721, 71), (739, 0, 737, 738, 71), (744, 0, 743, 24, 71), (756, 0, 755, 25, 71), (748, 1, 747, 9999, 71), (590, 0, 589, 19, 71), (456, 0, 455, 13, 71), (469, 0, 468, 14, 71), (529, 0, 528, 17, 71), (312, 1, 311, 9999, 71), (189, 1, 188, 9999, 71), (343, 1, 342, 9999, 71), (500, 1, 499, 9999, 71), (483, 1, 482, 9999, 71), (486, 1, 485, 9999, 71), (489, 1, 488, 9999, 71), (766, 0, 765, 9999, 77), (902, 1, 901, 9999, 77), (898, 0, 896, 897, 77), (906, 0, 904, 905, 77), (929, 1, 928, 9999, 77), (918, 0, 917, 27, 77), (947, 1, 946, 9999, 77), (944, 0, 943, 32, 77), (940, 0, 939, 31, 77), (951, 0, 950, 33, 77), (926, 0, 925, 29, 77), (933, 0, 932, 30, 77), (922, 0, 921, 28, 77), (914, 0, 913, 26, 77), (910, 0, 908, 909, 77), (961, 1, 960, 9999, 77), (969, 0, 968, 35, 77), (965, 0, 964, 34, 77), (958, 0, 956, 957, 77), (1020, 0, 1019, 43, 77), (981, 0, 980, 36, 77), (1084, 0, 1083, 51, 77), (989, 0, 988, 38, 77), (973, 0, 971, 972, 77), (985, 0, 984, 37, 77), (997, 0, 996, 40, 77), (1001, 0, 1000, 41, 77), (993, 0, 992, 39, 77), (1010, 0, 1009, 42, 77), (1028, 0, 1027, 44, 77), (977, 0, 975, 976, 77), (1005, 0, 1003, 1004, 77), (1014, 0, 1012, 1013, 77), (1024, 0, 1022, 1023, 77), (1052, 1, 1051, 9999, 77), (1049, 1, 1048, 9999, 77), (1046, 0, 1045, 47, 77), (1042, 0, 1041, 46, 77), (1038, 0, 1037, 45, 77), (1032, 0, 1030, 1031, 77), (1064, 0, 1063, 49, 77), (1060, 0, 1059, 48, 77), (1056, 0, 1054, 1055, 77), (1072, 0, 1071, 50, 77), (1068, 0, 1066, 1067, 77), (1076, 0, 1074, 1075, 77), (1080, 0, 1078, 1079, 77), (1093, 0, 1092, 52, 77), (1088, 0, 1086, 1087, 77), (1101, 0, 1100, 53, 77), (1097, 0, 1095, 1096, 77), (1113, 0, 1111, 1112, 77), (1126, 0, 1125, 57, 77), (1122, 0, 1121, 56, 77), (1117, 0, 1115, 1116, 77), (1130, 0, 1128, 1129, 77), (1134, 0, 1132, 1133, 77), (1138, 0, 1136, 1137, 77), (1142, 0, 1140, 1141, 77), (1105, 0, 1104, 54, 77), (1109, 0, 1108, 55, 77), (1155, 0, 1154, 59, 77), (1163, 0, 1162, 60, 77), (1167, 0, 1166, 61, 77), (1171, 0, 1170, 62, 77), (1175, 0, 1174, 63, 77), (1151, 0, 1150, 58, 77), (1146, 0, 1144, 1145, 77), (1179, 0, 1177, 1178, 77), (1183, 0, 1181, 1182, 77), (1195, 0, 1194, 65, 77), (1199, 0, 1198, 66, 77), (1191, 0, 1190, 64, 77), (1187, 0, 1185, 1186, 77), (1212, 0, 1211, 68, 77), (1208, 0, 1207, 67, 77), (1217, 0, 1216, 69, 77), (1203, 0, 1201, 1202, 77), (393, 1, 392, 9999, 80)]
def px_ms (m : Nat) : Nat × Nat × Nat × Nat × Nat := px_msl.getD m (0, 9, 0, 9999, 0)
def px_nps : List Nat := [0, 3, 4, 1, 2, 3, 4, 1, 2, 2, 2, 4, 0, 0, 2, 1, 1, 1, 1, 0, 0, 1, 1, 1, 1, 1, 1, 0, 1, 0, 0, 0, 3, 2, 1, 3, 2, 2, 2, 0, 1, 1, 1, 0, 1, 0, 1, 1, 1, 1, 4, 1, 0, 2, 0, 1, 1, 3, 1, 1, 2, 1, 0, 3, 2, 3, 1, 0, 1, 0, 0, 0, 3, 3, 3, 2, 1, 1, 1, 2, 0, 1, 3, 0, 2, 0, 1, 2, 4, 0, 3, 0, 0, 1, 0, 2, 1, 2, 0, 1, 2, 0, 2, 2, 1, 2, 3, 2, 3, 0, 3, 1, 0, 1, 0, 1, 0, 1, 1, 1, 1, 1, 0, 0, 2, 2, 1, 0, 0, 1, 2, 0, 0, 0, 1, 1, 1, 1, 0, 1, 1, 2, 0, 3, 3, 4, 1, 2, 2, 2, 1, 1, 0, 0, 1, 3, 3, 3, 3, 3, 3, 2, 2, 2, 1, 2, 4, 0, 2, 2, 1, 0, 0, 0, 0, 0, 3, 0, 0, 0, 0, 1, 1, 1, 1, 0, 0, 2, 1]
def px_np (m : Nat) : Nat := px_nps.getD m 99
end
section
/-! ## what the tables say is so: decided by the kernel -/
def px_dk (m : Nat) (q : Nat × px_K) : Bool := match decode (px_c m) q.1 with
  | .ok p => decide (p.1 = q.2.1) && (p.2 == q.2.2.1)
  | _ => false
def px_jk (m i : Nat) (k : px_K) : Bool := (px_jl.any fun q => q.1 == px_o m && q.2.1 == i && q.2.2.1 == k.2.2.1 && q.2.2.2.1 == k.2.2.2.2.toNat) && Nat.blt k.2.2.1 188 && k.2.2.2.1 == px_np k.2.2.1 && Nat.ble (px_fr k.2.2.1 + 1) (px_fr m) && Nat.ble (19 + px_ml k.2.2.1 + px_lo k.2.2.1) (px_lo m)
def px_xk (m i a : Nat) : Bool := (px_xl.any fun q => q.1 == px_o m && q.2.1 == i && q.2.2.1 == a) && Nat.ble 1 (px_fr m) && Nat.ble 30 (px_lo m)
def px_fk (m i a b : Nat) : Bool := (px_fl.any fun q => q.1 == px_o m && q.2.1 == i && q.2.2.1 == a && q.2.2.2.1 == b) && Nat.blt a 10 && Nat.blt b (px_N a)
def px_nk (m i a : Nat) : Bool := (px_nl.any fun q => q.1 == px_o m && q.2.1 == i && q.2.2.1 == a) && Nat.blt a 10
def px_lk (m : Nat) (k : px_K) : Bool := match k.1 with
  | .getfield i => px_fk m i k.2.2.1 k.2.2.2.1
  | .putfield i => px_fk m i k.2.2.1 k.2.2.2.1 && (!(px_T k.2.2.1 k.2.2.2.1).2.2.2 || (decide ((px_y m).name = "<init>") && decide ((px_T k.2.2.1 k.2.2.2.1).1 = px_R (px_o m))))
  | .new i => px_nk m i k.2.2.1 && k.2.2.2.1 == px_N k.2.2.1
  | .anewarray i => px_nk m i 3
  | .checkcast i => px_il.any fun q => q.1 == px_o m && q.2.1 == i
  | .ldc_w i => px_kl.any fun q => q.1 == px_o m && q.2.1 == i && decide (q.2.2.1 = k.2.2.2.2) && q.2.2.2.1 == 0
  | .ldc2_w i => px_kl.any fun q => q.1 == px_o m && q.2.1 == i && decide (q.2.2.1 = k.2.2.2.2) && q.2.2.2.1 == 1
  | .invokespecial i => if k.2.2.1 = 1000 then px_xk m i 1000 else px_jk m i k && (px_ms k.2.2.1).2.1 == 0 && decide ((px_y k.2.2.1).name = "<init>") && decide (px_rt k.2.2.1 = none)
  | .invokevirtual i => if k.2.2.1 = 1002 then px_xk m i 1002 else px_jk m i k && (px_ms k.2.2.1).2.1 == 0 && !((px_ms k.2.2.1).2.2.2.1 == 9999) && Nat.blt (px_o k.2.2.1) 10
  | .invokestatic i => if k.2.2.1 = 1001 then px_xk m i 1001 else if k.2.2.1 = 1003 then px_xk m i 1003 else if k.2.2.1 = 1004 then px_xk m i 1004 else px_jk m i k && (px_ms k.2.2.1).2.1 == 1
  | _ => true
def px_mk (m : Nat) : Bool :=
  decide (lw_tbl[(px_ms m).2.2.2.2]? = some (.initialized (px_y m).cls)) &&
  (if (px_ms m).2.1 = 1 then decide (lw_tbl[(px_ms m).2.2.1]? = some (.static (px_y m))) else decide (lw_tbl[(px_ms m).2.2.1]? = some (.instanceMethod (px_y m)))) &&
  ((px_ms m).2.2.2.1 == 9999 || decide (lw_tbl[(px_ms m).2.2.2.1]? = some (.selects (px_y m).cls (px_y m) (px_y m)))) &&
  decide ((parseMethodDescriptor (px_y m).desc).map (fun d => d.parameters.length) = some (px_np m)) &&
  decide ((px_y m).cls ≠ "java/lang/invoke/MethodHandle") && decide ((px_y m).cls ≠ "java/lang/invoke/VarHandle") && plainName (px_y m).cls && decide ((px_y m).cls = px_R (px_o m))
def px_gt : List Cond := lw_tbl.filter goodWord
theorem px_in {w : Cond} (h : w ∈ lw_tbl) (g : goodWord w = true) : w ∈ px_gt := List.mem_filter.mpr ⟨h, g⟩
set_option maxRecDepth 100000 in
theorem px_fl_k : (px_fl.all fun q => decide (lw_tbl[q.2.2.2.2]? = some (.fieldLink (px_R q.1) q.2.1 (px_T q.2.2.1 q.2.2.2.1).1 (px_T q.2.2.1 q.2.2.2.1).2.1 (px_T q.2.2.1 q.2.2.2.1).2.2.1))) = true := by decide +kernel
set_option maxRecDepth 100000 in
theorem px_nl_k : (px_nl.all fun q => decide (lw_tbl[q.2.2.2.1]? = some (.classLink (px_R q.1) q.2.1 (px_R q.2.2.1))) && decide (lw_tbl[q.2.2.2.2.1]? = some (.instantiable (px_R q.2.2.1) (px_N q.2.2.1))) && decide (lw_tbl[q.2.2.2.2.2]? = some (.initialized (px_R q.2.2.1)))) = true := by decide +kernel
set_option maxRecDepth 100000 in
theorem px_il_k : (px_il.all fun q => decide (lw_tbl[q.2.2]? = some (.classLink (px_R q.1) q.2.1 "[I"))) = true := by decide +kernel
set_option maxRecDepth 100000 in
theorem px_jl_k : (px_jl.all fun q => decide (lw_tbl[q.2.2.2.2]? = some (if q.2.2.2.1 = 1 then .methodLinkNest (px_R q.1) q.2.1 (px_y q.2.2.1) RX8 else .methodLink (px_R q.1) q.2.1 (px_y q.2.2.1)))) = true := by decide +kernel
def px_xn (a : Nat) : MethodName := if a = 1000 then objectInit else if a = 1001 then arraycopyName else if a = 1003 then Lib.Math.max.name else if a = 1004 then Lib.Math.min.name else ⟨"[I", "clone", "()Ljava/lang/Object;"⟩
set_option maxRecDepth 100000 in
theorem px_xl_k : (px_xl.all fun q => decide (lw_tbl[q.2.2.2]? = some (.methodLink (px_R q.1) q.2.1 (px_xn q.2.2.1)))) = true := by decide +kernel
set_option maxRecDepth 100000 in
theorem px_kl_k : (px_kl.all fun q => decide (lw_tbl[q.2.2.2.2]? = some (if q.2.2.2.1 = 1 then .constantLong (px_R q.1) q.2.1 (Int64.ofInt q.2.2.1) else .constant (px_R q.1) q.2.1 (Int32.ofInt q.2.2.1)))) = true := by decide +kernel
set_option maxRecDepth 100000 in
theorem px_w_arr : Cond.arrayClass .int ∈ lw_tbl ∧ Cond.arrayOver (.object RX3) ∈ lw_tbl ∧ Cond.instanceMethod objectInit ∈ lw_tbl ∧ Cond.code objectInit ⟨#[0xb1]⟩ 1 none ∈ lw_tbl ∧ Cond.native arraycopyName ∈ lw_tbl ∧ Cond.static arraycopyName ∈ lw_tbl ∧ Cond.initialized "java/lang/System" ∈ lw_tbl ∧ Cond.static Lib.Math.max.name ∈ lw_tbl ∧ Cond.static Lib.Math.min.name ∈ lw_tbl ∧ Cond.initialized "java/lang/Math" ∈ lw_tbl ∧ Cond.code Lib.Math.max.name Lib.Math.max.code 2 (some .int) ∈ lw_tbl ∧ Cond.code Lib.Math.min.name Lib.Math.min.code 2 (some .int) ∈ lw_tbl := by decide +kernel
set_option maxRecDepth 100000 in
theorem px_w_cl : Cond.sameMethod "[I" "java/lang/Object" "clone" "()Ljava/lang/Object;" ∈ lw_tbl ∧ Cond.native ⟨"java/lang/Object", "clone", "()Ljava/lang/Object;"⟩ ∈ lw_tbl ∧ Cond.instanceMethod ⟨"java/lang/Object", "clone", "()Ljava/lang/Object;"⟩ ∈ lw_tbl ∧ Cond.selects "[I" ⟨"[I", "clone", "()Ljava/lang/Object;"⟩ ⟨"java/lang/Object", "clone", "()Ljava/lang/Object;"⟩ ∈ lw_tbl ∧ Cond.castable "[I" "java/lang/Cloneable" ∈ lw_tbl := by decide +kernel
set_option maxRecDepth 100000 in
theorem px_mk_k : ((List.range 188).all px_mk) = true := by decide +kernel
set_option maxRecDepth 100000 in
theorem px_lk_k : ((List.range 189).all fun m => (px_tab m).all fun q => px_lk m q.2) = true := by decide +kernel

set_option maxRecDepth 100000 in
theorem px_dk_0 : (([0, 1, 2, 3, 4, 5, 6, 7, 8, 9, 10, 11, 12, 13, 14, 15, 16, 17] : List Nat).all fun m => (px_tab m).all (px_dk m)) = true := by decide +kernel
set_option maxRecDepth 100000 in
theorem px_dk_1 : (([18, 19, 20, 21, 22, 23, 24, 25, 26, 27, 28, 29] : List Nat).all fun m => (px_tab m).all (px_dk m)) = true := by decide +kernel
set_option maxRecDepth 100000 in
theorem px_dk_2 : (([30, 31, 32, 33, 34, 35, 36] : List Nat).all fun m => (px_tab m).all (px_dk m)) = true := by decide +kernel
set_option maxRecDepth 100000 in
theorem px_dk_3 : (([37, 38, 39, 40, 41, 42, 43, 44, 45, 46, 47] : List Nat).all fun m => (px_tab m).all (px_dk m)) = true := by decide +kernel
set_option maxRecDepth 100000 in
theorem px_dk_4 : (([48, 49, 50, 51, 52, 53, 54, 55] : List Nat).all fun m => (px_tab m).all (px_dk m)) = true := by decide +kernel
set_option maxRecDepth 100000 in
theorem px_dk_5 : (([56, 57, 58, 59, 60, 61, 62, 63] : List Nat).all fun m => (px_tab m).all (px_dk m)) = true := by decide +kernel
set_option maxRecDepth 100000 in
theorem px_dk_6 : (([64, 65, 66, 67, 68, 69, 70, 71, 72, 73] : List Nat).all fun m => (px_tab m).all (px_dk m)) = true := by decide +kernel
set_option maxRecDepth 100000 in
theorem px_dk_7 : (([74, 75, 76, 77, 78, 79, 80, 81, 82, 83] : List Nat).all fun m => (px_tab m).all (px_dk m)) = true := by decide +kernel
set_option maxRecDepth 100000 in
theorem px_dk_8 : (([84, 85, 86, 87, 88, 89, 90, 91, 92] : List Nat).all fun m => (px_tab m).all (px_dk m)) = true := by decide +kernel
set_option maxRecDepth 100000 in
theorem px_dk_9 : (([93, 95, 96, 97, 98, 99, 100, 101, 102, 103, 104, 105, 106, 107, 108] : List Nat).all fun m => (px_tab m).all (px_dk m)) = true := by decide +kernel
set_option maxRecDepth 100000 in
theorem px_dk_10 : (([109, 110, 111, 112, 113, 114, 115, 116, 117] : List Nat).all fun m => (px_tab m).all (px_dk m)) = true := by decide +kernel
set_option maxRecDepth 100000 in
theorem px_dk_11 : (([118, 119, 120, 121, 122, 123, 124, 128, 129] : List Nat).all fun m => (px_tab m).all (px_dk m)) = true := by decide +kernel
set_option maxRecDepth 100000 in
theorem px_dk_12 : (([130, 131, 132, 133, 134, 135, 136, 137] : List Nat).all fun m => (px_tab m).all (px_dk m)) = true := by decide +kernel
set_option maxRecDepth 100000 in
theorem px_dk_13 : (([138, 139, 140, 141, 142, 143, 144, 145] : List Nat).all fun m => (px_tab m).all (px_dk m)) = true := by decide +kernel
set_option maxRecDepth 100000 in
theorem px_dk_14 : (([146, 147, 148, 149, 150, 151, 152, 153] : List Nat).all fun m => (px_tab m).all (px_dk m)) = true := by decide +kernel
set_option maxRecDepth 100000 in
theorem px_dk_15 : (([154, 155, 156, 157, 158, 159, 160, 161, 162, 163] : List Nat).all fun m => (px_tab m).all (px_dk m)) = true := by decide +kernel
set_option maxRecDepth 100000 in
theorem px_dk_16 : (([164, 165, 166, 167, 168] : List Nat).all fun m => (px_tab m).all (px_dk m)) = true := by decide +kernel
set_option maxRecDepth 100000 in
theorem px_dk_17 : (([169, 170, 171, 172, 173, 174, 175, 176, 177, 178] : List Nat).all fun m => (px_tab m).all (px_dk m)) = true := by decide +kernel
set_option maxRecDepth 100000 in
theorem px_dk_18 : (([179, 180, 181, 182, 183, 184, 185, 187] : List Nat).all fun m => (px_tab m).all (px_dk m)) = true := by decide +kernel
set_option maxRecDepth 100000 in
theorem px_dl_94_0 : (((px_tab 94).drop 0).take 70).all (px_dk 94) = true := by decide +kernel
set_option maxRecDepth 100000 in
theorem px_dl_94_70 : (((px_tab 94).drop 70).take 70).all (px_dk 94) = true := by decide +kernel
set_option maxRecDepth 100000 in
theorem px_dm_94 : (px_tab 94).all (px_dk 94) = true := by
  have e : px_tab 94 = ((px_tab 94).drop 0).take 70 ++ ((px_tab 94).drop 70).take 70 := by rfl
  rw [e]
  simp only [List.all_append, px_dl_94_0, px_dl_94_70, Bool.and_self]
set_option maxRecDepth 100000 in
theorem px_dl_125_0 : (((px_tab 125).drop 0).take 70).all (px_dk 125) = true := by decide +kernel
set_option maxRecDepth 100000 in
theorem px_dl_125_70 : (((px_tab 125).drop 70).take 70).all (px_dk 125) = true := by decide +kernel
set_option maxRecDepth 100000 in
theorem px_dm_125 : (px_tab 125).all (px_dk 125) = true := by
  have e : px_tab 125 = ((px_tab 125).drop 0).take 70 ++ ((px_tab 125).drop 70).take 70 := by rfl
  rw [e]
  simp only [List.all_append, px_dl_125_0, px_dl_125_70, Bool.and_self]
set_option maxRecDepth 100000 in
theorem px_dl_126_0 : (((px_tab 126).drop 0).take 70).all (px_dk 126) = true := by decide +kernel
set_option maxRecDepth 100000 in
theorem px_dl_126_70 : (((px_tab 126).drop 70).take 70).all (px_dk 126) = true := by decide +kernel
set_option maxRecDepth 100000 in
theorem px_dl_126_140 : (((px_tab 126).drop 140).take 70).all (px_dk 126) = true := by decide +kernel
set_option maxRecDepth 100000 in
theorem px_dm_126 : (px_tab 126).all (px_dk 126) = true := by
  have e : px_tab 126 = ((px_tab 126).drop 0).take 70 ++ ((px_tab 126).drop 70).take 70 ++ ((px_tab 126).drop 140).take 70 := by rfl
  rw [e]
  simp only [List.all_append, px_dl_126_0, px_dl_126_70, px_dl_126_140, Bool.and_self]
set_option maxRecDepth 100000 in
theorem px_dl_127_0 : (((px_tab 127).drop 0).take 70).all (px_dk 127) = true := by decide +kernel
set_option maxRecDepth 100000 in
theorem px_dl_127_70 : (((px_tab 127).drop 70).take 70).all (px_dk 127) = true := by decide +kernel
set_option maxRecDepth 100000 in
theorem px_dm_127 : (px_tab 127).all (px_dk 127) = true := by
  have e : px_tab 127 = ((px_tab 127).drop 0).take 70 ++ ((px_tab 127).drop 70).take 70 := by rfl
  rw [e]
  simp only [List.all_append, px_dl_127_0, px_dl_127_70, Bool.and_self]
set_option maxRecDepth 100000 in
theorem px_dl_186_0 : (((px_tab 186).drop 0).take 70).all (px_dk 186) = true := by decide +kernel
set_option maxRecDepth 100000 in
theorem px_dl_186_70 : (((px_tab 186).drop 70).take 70).all (px_dk 186) = true := by decide +kernel
set_option maxRecDepth 100000 in
theorem px_dm_186 : (px_tab 186).all (px_dk 186) = true := by
  have e : px_tab 186 = ((px_tab 186).drop 0).take 70 ++ ((px_tab 186).drop 70).take 70 := by rfl
  rw [e]
  simp only [List.all_append, px_dl_186_0, px_dl_186_70, Bool.and_self]
set_option maxRecDepth 100000 in
theorem px_dl_188_0 : (((px_tab 188).drop 0).take 70).all (px_dk 188) = true := by decide +kernel
set_option maxRecDepth 100000 in
theorem px_dl_188_70 : (((px_tab 188).drop 70).take 70).all (px_dk 188) = true := by decide +kernel
set_option maxRecDepth 100000 in
theorem px_dl_188_140 : (((px_tab 188).drop 140).take 70).all (px_dk 188) = true := by decide +kernel
set_option maxRecDepth 100000 in
theorem px_dl_188_210 : (((px_tab 188).drop 210).take 70).all (px_dk 188) = true := by decide +kernel
set_option maxRecDepth 100000 in
theorem px_dl_188_280 : (((px_tab 188).drop 280).take 70).all (px_dk 188) = true := by decide +kernel
set_option maxRecDepth 100000 in
theorem px_dl_188_350 : (((px_tab 188).drop 350).take 70).all (px_dk 188) = true := by decide +kernel
set_option maxRecDepth 100000 in
theorem px_dl_188_420 : (((px_tab 188).drop 420).take 70).all (px_dk 188) = true := by decide +kernel
set_option maxRecDepth 100000 in
theorem px_dl_188_490 : (((px_tab 188).drop 490).take 70).all (px_dk 188) = true := by decide +kernel
set_option maxRecDepth 100000 in
theorem px_dm_188 : (px_tab 188).all (px_dk 188) = true := by
  have e : px_tab 188 = ((px_tab 188).drop 0).take 70 ++ ((px_tab 188).drop 70).take 70 ++ ((px_tab 188).drop 140).take 70 ++ ((px_tab 188).drop 210).take 70 ++ ((px_tab 188).drop 280).take 70 ++ ((px_tab 188).drop 350).take 70 ++ ((px_tab 188).drop 420).take 70 ++ ((px_tab 188).drop 490).take 70 := by rfl
  rw [e]
  simp only [List.all_append, px_dl_188_0, px_dl_188_70, px_dl_188_140, px_dl_188_210, px_dl_188_280, px_dl_188_350, px_dl_188_420, px_dl_188_490, Bool.and_self]
set_option maxRecDepth 100000 in
theorem px_case : ((List.range 189).all fun m => (([0, 1, 2, 3, 4, 5, 6, 7, 8, 9, 10, 11, 12, 13, 14, 15, 16, 17] : List Nat).contains m || (([18, 19, 20, 21, 22, 23, 24, 25, 26, 27, 28, 29] : List Nat).contains m || (([30, 31, 32, 33, 34, 35, 36] : List Nat).contains m || (([37, 38, 39, 40, 41, 42, 43, 44, 45, 46, 47] : List Nat).contains m || (([48, 49, 50, 51, 52, 53, 54, 55] : List Nat).contains m || (([56, 57, 58, 59, 60, 61, 62, 63] : List Nat).contains m || (([64, 65, 66, 67, 68, 69, 70, 71, 72, 73] : List Nat).contains m || (([74, 75, 76, 77, 78, 79, 80, 81, 82, 83] : List Nat).contains m || (([84, 85, 86, 87, 88, 89, 90, 91, 92] : List Nat).contains m || (([93, 95, 96, 97, 98, 99, 100, 101, 102, 103, 104, 105, 106, 107, 108] : List Nat).contains m || (([109, 110, 111, 112, 113, 114, 115, 116, 117] : List Nat).contains m || (([118, 119, 120, 121, 122, 123, 124, 128, 129] : List Nat).contains m || (([130, 131, 132, 133, 134, 135, 136, 137] : List Nat).contains m || (([138, 139, 140, 141, 142, 143, 144, 145] : List Nat).contains m || (([146, 147, 148, 149, 150, 151, 152, 153] : List Nat).contains m || (([154, 155, 156, 157, 158, 159, 160, 161, 162, 163] : List Nat).contains m || (([164, 165, 166, 167, 168] : List Nat).contains m || (([169, 170, 171, 172, 173, 174, 175, 176, 177, 178] : List Nat).contains m || (([179, 180, 181, 182, 183, 184, 185, 187] : List Nat).contains m || (([94] : List Nat).contains m || (([125] : List Nat).contains m || (([126] : List Nat).contains m || (([127] : List Nat).contains m || (([186] : List Nat).contains m || (([188] : List Nat).contains m)))))))))))))))))))))))))) = true := by decide +kernel
theorem px_dall : ∀ m, m < 189 → (px_tab m).all (px_dk m) = true := by
  intro m hm
  have h := List.all_eq_true.mp px_case m (List.mem_range.mpr hm)
  simp only [Bool.or_eq_true] at h
  rcases h with h | h | h | h | h | h | h | h | h | h | h | h | h | h | h | h | h | h | h | h | h | h | h | h | h
  · exact List.all_eq_true.mp px_dk_0 m (List.contains_iff_mem.mp h)
  · exact List.all_eq_true.mp px_dk_1 m (List.contains_iff_mem.mp h)
  · exact List.all_eq_true.mp px_dk_2 m (List.contains_iff_mem.mp h)
  · exact List.all_eq_true.mp px_dk_3 m (List.contains_iff_mem.mp h)
  · exact List.all_eq_true.mp px_dk_4 m (List.contains_iff_mem.mp h)
  · exact List.all_eq_true.mp px_dk_5 m (List.contains_iff_mem.mp h)
  · exact List.all_eq_true.mp px_dk_6 m (List.contains_iff_mem.mp h)
  · exact List.all_eq_true.mp px_dk_7 m (List.contains_iff_mem.mp h)
  · exact List.all_eq_true.mp px_dk_8 m (List.contains_iff_mem.mp h)
  · exact List.all_eq_true.mp px_dk_9 m (List.contains_iff_mem.mp h)
  · exact List.all_eq_true.mp px_dk_10 m (List.contains_iff_mem.mp h)
  · exact List.all_eq_true.mp px_dk_11 m (List.contains_iff_mem.mp h)
  · exact List.all_eq_true.mp px_dk_12 m (List.contains_iff_mem.mp h)
  · exact List.all_eq_true.mp px_dk_13 m (List.contains_iff_mem.mp h)
  · exact List.all_eq_true.mp px_dk_14 m (List.contains_iff_mem.mp h)
  · exact List.all_eq_true.mp px_dk_15 m (List.contains_iff_mem.mp h)
  · exact List.all_eq_true.mp px_dk_16 m (List.contains_iff_mem.mp h)
  · exact List.all_eq_true.mp px_dk_17 m (List.contains_iff_mem.mp h)
  · exact List.all_eq_true.mp px_dk_18 m (List.contains_iff_mem.mp h)
  · rw [List.mem_singleton.mp (List.contains_iff_mem.mp h)]; exact px_dm_94
  · rw [List.mem_singleton.mp (List.contains_iff_mem.mp h)]; exact px_dm_125
  · rw [List.mem_singleton.mp (List.contains_iff_mem.mp h)]; exact px_dm_126
  · rw [List.mem_singleton.mp (List.contains_iff_mem.mp h)]; exact px_dm_127
  · rw [List.mem_singleton.mp (List.contains_iff_mem.mp h)]; exact px_dm_186
  · rw [List.mem_singleton.mp (List.contains_iff_mem.mp h)]; exact px_dm_188
set_option maxRecDepth 100000 in
theorem px_cw_0 : ∀ m, m < 20 → Cond.code (px_y (0 + m)) (px_c (0 + m)) (px_ml (0 + m)) (px_rt (0 + m)) ∈ lw_tbl := by
  intro m hm
  have h : m = 0 ∨ m = 1 ∨ m = 2 ∨ m = 3 ∨ m = 4 ∨ m = 5 ∨ m = 6 ∨ m = 7 ∨ m = 8 ∨ m = 9 ∨ m = 10 ∨ m = 11 ∨ m = 12 ∨ m = 13 ∨ m = 14 ∨ m = 15 ∨ m = 16 ∨ m = 17 ∨ m = 18 ∨ m = 19 := by omega
  rcases h with rfl | rfl | rfl | rfl | rfl | rfl | rfl | rfl | rfl | rfl | rfl | rfl | rfl | rfl | rfl | rfl | rfl | rfl | rfl | rfl
  · exact List.mem_of_getElem? (i := 154) (rfl : lw_tbl[154]? = some (Cond.code yX0_init cX0_init 1 none))
  · exact List.mem_of_getElem? (i := 461) (rfl : lw_tbl[461]? = some (Cond.code yX0_rowPart cX0_rowPart 4 (some .int)))
  · exact List.mem_of_getElem? (i := 411) (rfl : lw_tbl[411]? = some (Cond.code yX0_writeRowPart cX0_writeRowPart 5 none))
  · exact List.mem_of_getElem? (i := 186) (rfl : lw_tbl[186]? = some (Cond.code yX0_padCount cX0_padCount 2 (some .int)))
  · exact List.mem_of_getElem? (i := 444) (rfl : lw_tbl[444]? = some (Cond.code yX0_writePadCount cX0_writePadCount 3 none))
  · exact List.mem_of_getElem? (i := 193) (rfl : lw_tbl[193]? = some (Cond.code yX0_padPart cX0_padPart 4 (some .int)))
  · exact List.mem_of_getElem? (i := 440) (rfl : lw_tbl[440]? = some (Cond.code yX0_writePadPart cX0_writePadPart 5 none))
  · exact List.mem_of_getElem? (i := 558) (rfl : lw_tbl[558]? = some (Cond.code yX0_saveCount cX0_saveCount 2 (some .int)))
  · exact List.mem_of_getElem? (i := 562) (rfl : lw_tbl[562]? = some (Cond.code yX0_saveAddress cX0_saveAddress 3 (some .int)))
  · exact List.mem_of_getElem? (i := 570) (rfl : lw_tbl[570]? = some (Cond.code yX0_saveRegister cX0_saveRegister 3 (some .int)))
  · exact List.mem_of_getElem? (i := 566) (rfl : lw_tbl[566]? = some (Cond.code yX0_saveCell cX0_saveCell 3 (some .int)))
  · exact List.mem_of_getElem? (i := 420) (rfl : lw_tbl[420]? = some (Cond.code yX0_addSave cX0_addSave 6 none))
  · exact List.mem_of_getElem? (i := 726) (rfl : lw_tbl[726]? = some (Cond.code yX0_countPads cX0_countPads 3 (some .int)))
  · exact List.mem_of_getElem? (i := 730) (rfl : lw_tbl[730]? = some (Cond.code yX0_countSavingAddresses cX0_countSavingAddresses 4 (some .int)))
  · exact List.mem_of_getElem? (i := 734) (rfl : lw_tbl[734]? = some (Cond.code yX0_isAnythingSaved cX0_isAnythingSaved 4 (some .boolean)))
  · exact List.mem_of_getElem? (i := 674) (rfl : lw_tbl[674]? = some (Cond.code yX1_init cX1_init 2 none))
  · exact List.mem_of_getElem? (i := 688) (rfl : lw_tbl[688]? = some (Cond.code yX1_draw cX1_draw 2 (some .int)))
  · exact List.mem_of_getElem? (i := 684) (rfl : lw_tbl[684]? = some (Cond.code yX1_doOne cX1_doOne 3 (some .boolean)))
  · exact List.mem_of_getElem? (i := 699) (rfl : lw_tbl[699]? = some (Cond.code yX1_throwDrawn cX1_throwDrawn 4 (some .boolean)))
  · exact List.mem_of_getElem? (i := 113) (rfl : lw_tbl[113]? = some (Cond.code yX2_init cX2_init 1 none))
set_option maxRecDepth 100000 in
theorem px_cw_20 : ∀ m, m < 20 → Cond.code (px_y (20 + m)) (px_c (20 + m)) (px_ml (20 + m)) (px_rt (20 + m)) ∈ lw_tbl := by
  intro m hm
  have h : m = 0 ∨ m = 1 ∨ m = 2 ∨ m = 3 ∨ m = 4 ∨ m = 5 ∨ m = 6 ∨ m = 7 ∨ m = 8 ∨ m = 9 ∨ m = 10 ∨ m = 11 ∨ m = 12 ∨ m = 13 ∨ m = 14 ∨ m = 15 ∨ m = 16 ∨ m = 17 ∨ m = 18 ∨ m = 19 := by omega
  rcases h with rfl | rfl | rfl | rfl | rfl | rfl | rfl | rfl | rfl | rfl | rfl | rfl | rfl | rfl | rfl | rfl | rfl | rfl | rfl | rfl
  · exact List.mem_of_getElem? (i := 448) (rfl : lw_tbl[448]? = some (Cond.code yX2_empty cX2_empty 1 none))
  · exact List.mem_of_getElem? (i := 533) (rfl : lw_tbl[533]? = some (Cond.code yX2_add cX2_add 2 none))
  · exact List.mem_of_getElem? (i := 633) (rfl : lw_tbl[633]? = some (Cond.code yX2_takeLatest cX2_takeLatest 2 (some (.object "RowUnwinder$Machine"))))
  · exact List.mem_of_getElem? (i := 709) (rfl : lw_tbl[709]? = some (Cond.code yX2_become cX2_become 3 none))
  · exact List.mem_of_getElem? (i := 181) (rfl : lw_tbl[181]? = some (Cond.code yX3_init cX3_init 4 none))
  · exact List.mem_of_getElem? (i := 539) (rfl : lw_tbl[539]? = some (Cond.code yX3_init_ cX3_init_ 2 none))
  · exact List.mem_of_getElem? (i := 508) (rfl : lw_tbl[508]? = some (Cond.code yX3_levelOf cX3_levelOf 2 (some .int)))
  · exact List.mem_of_getElem? (i := 578) (rfl : lw_tbl[578]? = some (Cond.code yX3_latestAddress cX3_latestAddress 1 (some .int)))
  · exact List.mem_of_getElem? (i := 550) (rfl : lw_tbl[550]? = some (Cond.code yX3_enter cX3_enter 3 none))
  · exact List.mem_of_getElem? (i := 582) (rfl : lw_tbl[582]? = some (Cond.code yX3_step cX3_step 1 none))
  · exact List.mem_of_getElem? (i := 554) (rfl : lw_tbl[554]? = some (Cond.code yX3_saveAtLatest cX3_saveAtLatest 4 none))
  · exact List.mem_of_getElem? (i := 598) (rfl : lw_tbl[598]? = some (Cond.code yX3_leave cX3_leave 2 none))
  · exact List.mem_of_getElem? (i := 516) (rfl : lw_tbl[516]? = some (Cond.code yX3_behindBack cX3_behindBack 5 (some .int)))
  · exact List.mem_of_getElem? (i := 512) (rfl : lw_tbl[512]? = some (Cond.code yX3_callerOf cX3_callerOf 5 (some .int)))
  · exact List.mem_of_getElem? (i := 606) (rfl : lw_tbl[606]? = some (Cond.code yX3_catcherOf cX3_catcherOf 5 (some .int)))
  · exact List.mem_of_getElem? (i := 611) (rfl : lw_tbl[611]? = some (Cond.code yX3_deedAt cX3_deedAt 6 (some .int)))
  · exact List.mem_of_getElem? (i := 641) (rfl : lw_tbl[641]? = some (Cond.code yX3_countFinishing cX3_countFinishing 6 (some .int)))
  · exact List.mem_of_getElem? (i := 616) (rfl : lw_tbl[616]? = some (Cond.code yX3_unwindTo cX3_unwindTo 5 none))
  · exact List.mem_of_getElem? (i := 620) (rfl : lw_tbl[620]? = some (Cond.code yX3_finishAtLatest cX3_finishAtLatest 5 none))
  · exact List.mem_of_getElem? (i := 96) (rfl : lw_tbl[96]? = some (Cond.code yX4_init cX4_init 1 none))
set_option maxRecDepth 100000 in
theorem px_cw_40 : ∀ m, m < 20 → Cond.code (px_y (40 + m)) (px_c (40 + m)) (px_ml (40 + m)) (px_rt (40 + m)) ∈ lw_tbl := by
  intro m hm
  have h : m = 0 ∨ m = 1 ∨ m = 2 ∨ m = 3 ∨ m = 4 ∨ m = 5 ∨ m = 6 ∨ m = 7 ∨ m = 8 ∨ m = 9 ∨ m = 10 ∨ m = 11 ∨ m = 12 ∨ m = 13 ∨ m = 14 ∨ m = 15 ∨ m = 16 ∨ m = 17 ∨ m = 18 ∨ m = 19 := by omega
  rcases h with rfl | rfl | rfl | rfl | rfl | rfl | rfl | rfl | rfl | rfl | rfl | rfl | rfl | rfl | rfl | rfl | rfl | rfl | rfl | rfl
  · exact List.mem_of_getElem? (i := 265) (rfl : lw_tbl[265]? = some (Cond.code yX4_write cX4_write 2 none))
  · exact List.mem_of_getElem? (i := 309) (rfl : lw_tbl[309]? = some (Cond.code yX4_codeAt cX4_codeAt 2 (some .int)))
  · exact List.mem_of_getElem? (i := 402) (rfl : lw_tbl[402]? = some (Cond.code yX4_digitAt cX4_digitAt 2 (some .int)))
  · exact List.mem_of_getElem? (i := 278) (rfl : lw_tbl[278]? = some (Cond.code yX5_init cX5_init 1 none))
  · exact List.mem_of_getElem? (i := 305) (rfl : lw_tbl[305]? = some (Cond.code yX5_firstFault cX5_firstFault 3 (some .int)))
  · exact List.mem_of_getElem? (i := 351) (rfl : lw_tbl[351]? = some (Cond.code yX5_mayEnd cX5_mayEnd 1 (some .boolean)))
  · exact List.mem_of_getElem? (i := 316) (rfl : lw_tbl[316]? = some (Cond.code yX5_takes cX5_takes 2 (some .boolean)))
  · exact List.mem_of_getElem? (i := 320) (rfl : lw_tbl[320]? = some (Cond.code yX5_takesOp cX5_takesOp 2 (some .boolean)))
  · exact List.mem_of_getElem? (i := 324) (rfl : lw_tbl[324]? = some (Cond.code yX5_takesOpLetter cX5_takesOpLetter 2 (some .boolean)))
  · exact List.mem_of_getElem? (i := 328) (rfl : lw_tbl[328]? = some (Cond.code yX5_takesFarther cX5_takesFarther 2 (some .boolean)))
  · exact List.mem_of_getElem? (i := 332) (rfl : lw_tbl[332]? = some (Cond.code yX5_takesDigit cX5_takesDigit 6 (some .boolean)))
  · exact List.mem_of_getElem? (i := 336) (rfl : lw_tbl[336]? = some (Cond.code yX5_takesBetweenPads cX5_takesBetweenPads 2 (some .boolean)))
  · exact List.mem_of_getElem? (i := 340) (rfl : lw_tbl[340]? = some (Cond.code yX5_beginFunction cX5_beginFunction 1 none))
  · exact List.mem_of_getElem? (i := 356) (rfl : lw_tbl[356]? = some (Cond.code yX6_init cX6_init 3 none))
  · exact List.mem_of_getElem? (i := 386) (rfl : lw_tbl[386]? = some (Cond.code yX6_writeText cX6_writeText 2 none))
  · exact List.mem_of_getElem? (i := 390) (rfl : lw_tbl[390]? = some (Cond.code yX6_writeProgram cX6_writeProgram 3 none))
  · exact List.mem_of_getElem? (i := 398) (rfl : lw_tbl[398]? = some (Cond.code yX6_writeOp cX6_writeOp 4 none))
  · exact List.mem_of_getElem? (i := 415) (rfl : lw_tbl[415]? = some (Cond.code yX6_save cX6_save 4 none))
  · exact List.mem_of_getElem? (i := 424) (rfl : lw_tbl[424]? = some (Cond.code yX6_free cX6_free 2 none))
  · exact List.mem_of_getElem? (i := 428) (rfl : lw_tbl[428]? = some (Cond.code yX6_rememberOrGoBack cX6_rememberOrGoBack 2 none))
set_option maxRecDepth 100000 in
theorem px_cw_60 : ∀ m, m < 20 → Cond.code (px_y (60 + m)) (px_c (60 + m)) (px_ml (60 + m)) (px_rt (60 + m)) ∈ lw_tbl := by
  intro m hm
  have h : m = 0 ∨ m = 1 ∨ m = 2 ∨ m = 3 ∨ m = 4 ∨ m = 5 ∨ m = 6 ∨ m = 7 ∨ m = 8 ∨ m = 9 ∨ m = 10 ∨ m = 11 ∨ m = 12 ∨ m = 13 ∨ m = 14 ∨ m = 15 ∨ m = 16 ∨ m = 17 ∨ m = 18 ∨ m = 19 := by omega
  rcases h with rfl | rfl | rfl | rfl | rfl | rfl | rfl | rfl | rfl | rfl | rfl | rfl | rfl | rfl | rfl | rfl | rfl | rfl | rfl | rfl
  · exact List.mem_of_getElem? (i := 407) (rfl : lw_tbl[407]? = some (Cond.code yX6_writeRowsTo cX6_writeRowsTo 5 none))
  · exact List.mem_of_getElem? (i := 435) (rfl : lw_tbl[435]? = some (Cond.code yX6_writePads cX6_writePads 4 none))
  · exact List.mem_of_getElem? (i := 132) (rfl : lw_tbl[132]? = some (Cond.code yX7_init cX7_init 1 none))
  · exact List.mem_of_getElem? (i := 661) (rfl : lw_tbl[661]? = some (Cond.code yX7_note cX7_note 4 none))
  · exact List.mem_of_getElem? (i := 476) (rfl : lw_tbl[476]? = some (Cond.code yX7_sortsOf cX7_sortsOf 5 (some .int)))
  · exact List.mem_of_getElem? (i := 480) (rfl : lw_tbl[480]? = some (Cond.code yX7_canBe cX7_canBe 5 (some .boolean)))
  · exact List.mem_of_getElem? (i := 713) (rfl : lw_tbl[713]? = some (Cond.code yX7_become cX7_become 2 none))
  · exact List.mem_of_getElem? (i := 88) (rfl : lw_tbl[88]? = some (Cond.code yX8_init cX8_init 1 none))
  · exact List.mem_of_getElem? (i := 261) (rfl : lw_tbl[261]? = some (Cond.code yX8_letter cX8_letter 2 (some .int)))
  · exact List.mem_of_getElem? (i := 269) (rfl : lw_tbl[269]? = some (Cond.code yX8_blank cX8_blank 2 (some .int)))
  · exact List.mem_of_getElem? (i := 273) (rfl : lw_tbl[273]? = some (Cond.code yX8_fault cX8_fault 1 (some .int)))
  · exact List.mem_of_getElem? (i := 347) (rfl : lw_tbl[347]? = some (Cond.code yX8_text cX8_text 3 (some .int)))
  · exact List.mem_of_getElem? (i := 452) (rfl : lw_tbl[452]? = some (Cond.code yX8_row cX8_row 4 (some .int)))
  · exact List.mem_of_getElem? (i := 465) (rfl : lw_tbl[465]? = some (Cond.code yX8_pad cX8_pad 6 (some .int)))
  · exact List.mem_of_getElem? (i := 497) (rfl : lw_tbl[497]? = some (Cond.code yX8_as cX8_as 4 (some .int)))
  · exact List.mem_of_getElem? (i := 504) (rfl : lw_tbl[504]? = some (Cond.code yX8_frame cX8_frame 4 (some .int)))
  · exact List.mem_of_getElem? (i := 521) (rfl : lw_tbl[521]? = some (Cond.code yX8_register cX8_register 2 (some .int)))
  · exact List.mem_of_getElem? (i := 525) (rfl : lw_tbl[525]? = some (Cond.code yX8_call cX8_call 2 (some .int)))
  · exact List.mem_of_getElem? (i := 574) (rfl : lw_tbl[574]? = some (Cond.code yX8_go cX8_go 3 (some .int)))
  · exact List.mem_of_getElem? (i := 586) (rfl : lw_tbl[586]? = some (Cond.code yX8_set cX8_set 4 (some .int)))
set_option maxRecDepth 100000 in
theorem px_cw_80 : ∀ m, m < 20 → Cond.code (px_y (80 + m)) (px_c (80 + m)) (px_ml (80 + m)) (px_rt (80 + m)) ∈ lw_tbl := by
  intro m hm
  have h : m = 0 ∨ m = 1 ∨ m = 2 ∨ m = 3 ∨ m = 4 ∨ m = 5 ∨ m = 6 ∨ m = 7 ∨ m = 8 ∨ m = 9 ∨ m = 10 ∨ m = 11 ∨ m = 12 ∨ m = 13 ∨ m = 14 ∨ m = 15 ∨ m = 16 ∨ m = 17 ∨ m = 18 ∨ m = 19 := by omega
  rcases h with rfl | rfl | rfl | rfl | rfl | rfl | rfl | rfl | rfl | rfl | rfl | rfl | rfl | rfl | rfl | rfl | rfl | rfl | rfl | rfl
  · exact List.mem_of_getElem? (i := 594) (rfl : lw_tbl[594]? = some (Cond.code yX8_back cX8_back 1 (some .int)))
  · exact List.mem_of_getElem? (i := 602) (rfl : lw_tbl[602]? = some (Cond.code yX8_raise cX8_raise 3 (some .int)))
  · exact List.mem_of_getElem? (i := 625) (rfl : lw_tbl[625]? = some (Cond.code yX8_change cX8_change 5 (some .int)))
  · exact List.mem_of_getElem? (i := 629) (rfl : lw_tbl[629]? = some (Cond.code yX8_undo cX8_undo 1 (some .int)))
  · exact List.mem_of_getElem? (i := 637) (rfl : lw_tbl[637]? = some (Cond.code yX8_search cX8_search 4 (some .int)))
  · exact List.mem_of_getElem? (i := 645) (rfl : lw_tbl[645]? = some (Cond.code yX8_loose cX8_loose 3 (some .int)))
  · exact List.mem_of_getElem? (i := 649) (rfl : lw_tbl[649]? = some (Cond.code yX8_finished cX8_finished 2 (some .int)))
  · exact List.mem_of_getElem? (i := 653) (rfl : lw_tbl[653]? = some (Cond.code yX8_same cX8_same 5 (some .int)))
  · exact List.mem_of_getElem? (i := 657) (rfl : lw_tbl[657]? = some (Cond.code yX8_see cX8_see 5 (some .int)))
  · exact List.mem_of_getElem? (i := 665) (rfl : lw_tbl[665]? = some (Cond.code yX8_forget cX8_forget 2 (some .int)))
  · exact List.mem_of_getElem? (i := 669) (rfl : lw_tbl[669]? = some (Cond.code yX8_drawn cX8_drawn 8 (some .int)))
  · exact List.mem_of_getElem? (i := 705) (rfl : lw_tbl[705]? = some (Cond.code yX8_image cX8_image 1 (some .int)))
  · exact List.mem_of_getElem? (i := 718) (rfl : lw_tbl[718]? = some (Cond.code yX8_restore cX8_restore 1 (some .int)))
  · exact List.mem_of_getElem? (i := 722) (rfl : lw_tbl[722]? = some (Cond.code yX8_count cX8_count 2 (some .int)))
  · exact List.mem_of_getElem? (i := 739) (rfl : lw_tbl[739]? = some (Cond.code yX8_digest cX8_digest 5 (some .long)))
  · exact List.mem_of_getElem? (i := 744) (rfl : lw_tbl[744]? = some (Cond.code yX8_digestFunction cX8_digestFunction 8 (some .long)))
  · exact List.mem_of_getElem? (i := 756) (rfl : lw_tbl[756]? = some (Cond.code yX8_digestThrowing cX8_digestThrowing 7 (some .long)))
  · exact List.mem_of_getElem? (i := 748) (rfl : lw_tbl[748]? = some (Cond.code yX8_folded cX8_folded 4 (some .long)))
  · exact List.mem_of_getElem? (i := 590) (rfl : lw_tbl[590]? = some (Cond.code yX8_hasText cX8_hasText 1 (some .boolean)))
  · exact List.mem_of_getElem? (i := 456) (rfl : lw_tbl[456]? = some (Cond.code yX8_isFunction cX8_isFunction 2 (some .boolean)))
set_option maxRecDepth 100000 in
theorem px_cw_100 : ∀ m, m < 20 → Cond.code (px_y (100 + m)) (px_c (100 + m)) (px_ml (100 + m)) (px_rt (100 + m)) ∈ lw_tbl := by
  intro m hm
  have h : m = 0 ∨ m = 1 ∨ m = 2 ∨ m = 3 ∨ m = 4 ∨ m = 5 ∨ m = 6 ∨ m = 7 ∨ m = 8 ∨ m = 9 ∨ m = 10 ∨ m = 11 ∨ m = 12 ∨ m = 13 ∨ m = 14 ∨ m = 15 ∨ m = 16 ∨ m = 17 ∨ m = 18 ∨ m = 19 := by omega
  rcases h with rfl | rfl | rfl | rfl | rfl | rfl | rfl | rfl | rfl | rfl | rfl | rfl | rfl | rfl | rfl | rfl | rfl | rfl | rfl | rfl
  · exact List.mem_of_getElem? (i := 469) (rfl : lw_tbl[469]? = some (Cond.code yX8_isPad cX8_isPad 3 (some .boolean)))
  · exact List.mem_of_getElem? (i := 529) (rfl : lw_tbl[529]? = some (Cond.code yX8_beginDoing cX8_beginDoing 1 none))
  · exact List.mem_of_getElem? (i := 312) (rfl : lw_tbl[312]? = some (Cond.code yX8_isBelow cX8_isBelow 2 (some .boolean)))
  · exact List.mem_of_getElem? (i := 189) (rfl : lw_tbl[189]? = some (Cond.code yX8_slot cX8_slot 2 (some .int)))
  · exact List.mem_of_getElem? (i := 343) (rfl : lw_tbl[343]? = some (Cond.code yX8_kindOfLetter cX8_kindOfLetter 1 (some .int)))
  · exact List.mem_of_getElem? (i := 500) (rfl : lw_tbl[500]? = some (Cond.code yX8_isOfKind cX8_isOfKind 2 (some .boolean)))
  · exact List.mem_of_getElem? (i := 483) (rfl : lw_tbl[483]? = some (Cond.code yX8_deedOf cX8_deedOf 3 (some .int)))
  · exact List.mem_of_getElem? (i := 486) (rfl : lw_tbl[486]? = some (Cond.code yX8_bestToThrow cX8_bestToThrow 6 (some .int)))
  · exact List.mem_of_getElem? (i := 489) (rfl : lw_tbl[489]? = some (Cond.code yX8_leftAtWorst cX8_leftAtWorst 7 (some .int)))
  · exact List.mem_of_getElem? (i := 766) (rfl : lw_tbl[766]? = some (Cond.code yX9_init cX9_init 1 none))
  · exact List.mem_of_getElem? (i := 902) (rfl : lw_tbl[902]? = some (Cond.code yX9_in cX9_in 6 (some .boolean)))
  · exact List.mem_of_getElem? (i := 898) (rfl : lw_tbl[898]? = some (Cond.code yX9_letter cX9_letter 2 (some .int)))
  · exact List.mem_of_getElem? (i := 906) (rfl : lw_tbl[906]? = some (Cond.code yX9_blank cX9_blank 2 (some .int)))
  · exact List.mem_of_getElem? (i := 929) (rfl : lw_tbl[929]? = some (Cond.code yX9_kindBy cX9_kindBy 1 (some .int)))
  · exact List.mem_of_getElem? (i := 918) (rfl : lw_tbl[918]? = some (Cond.code yX9_beginFunction cX9_beginFunction 1 none))
  · exact List.mem_of_getElem? (i := 947) (rfl : lw_tbl[947]? = some (Cond.code yX9_digitsOf cX9_digitsOf 1 (some .int)))
  · exact List.mem_of_getElem? (i := 944) (rfl : lw_tbl[944]? = some (Cond.code yX9_endOp cX9_endOp 1 none))
  · exact List.mem_of_getElem? (i := 940) (rfl : lw_tbl[940]? = some (Cond.code yX9_isOpBegun cX9_isOpBegun 3 (some .boolean)))
  · exact List.mem_of_getElem? (i := 951) (rfl : lw_tbl[951]? = some (Cond.code yX9_isOpDigit cX9_isOpDigit 3 (some .boolean)))
  · exact List.mem_of_getElem? (i := 926) (rfl : lw_tbl[926]? = some (Cond.code yX9_isPadBegun cX9_isPadBegun 2 (some .boolean)))
set_option maxRecDepth 100000 in
theorem px_cw_120 : ∀ m, m < 20 → Cond.code (px_y (120 + m)) (px_c (120 + m)) (px_ml (120 + m)) (px_rt (120 + m)) ∈ lw_tbl := by
  intro m hm
  have h : m = 0 ∨ m = 1 ∨ m = 2 ∨ m = 3 ∨ m = 4 ∨ m = 5 ∨ m = 6 ∨ m = 7 ∨ m = 8 ∨ m = 9 ∨ m = 10 ∨ m = 11 ∨ m = 12 ∨ m = 13 ∨ m = 14 ∨ m = 15 ∨ m = 16 ∨ m = 17 ∨ m = 18 ∨ m = 19 := by omega
  rcases h with rfl | rfl | rfl | rfl | rfl | rfl | rfl | rfl | rfl | rfl | rfl | rfl | rfl | rfl | rfl | rfl | rfl | rfl | rfl | rfl
  · exact List.mem_of_getElem? (i := 933) (rfl : lw_tbl[933]? = some (Cond.code yX9_isPadDigit cX9_isPadDigit 4 (some .boolean)))
  · exact List.mem_of_getElem? (i := 922) (rfl : lw_tbl[922]? = some (Cond.code yX9_isGood cX9_isGood 3 (some .boolean)))
  · exact List.mem_of_getElem? (i := 914) (rfl : lw_tbl[914]? = some (Cond.code yX9_faultOf cX9_faultOf 2 (some .int)))
  · exact List.mem_of_getElem? (i := 910) (rfl : lw_tbl[910]? = some (Cond.code yX9_fault cX9_fault 1 (some .int)))
  · exact List.mem_of_getElem? (i := 961) (rfl : lw_tbl[961]? = some (Cond.code yX9_copy cX9_copy 3 none))
  · exact List.mem_of_getElem? (i := 969) (rfl : lw_tbl[969]? = some (Cond.code yX9_doOp cX9_doOp 6 none))
  · exact List.mem_of_getElem? (i := 965) (rfl : lw_tbl[965]? = some (Cond.code yX9_layFunction cX9_layFunction 7 none))
  · exact List.mem_of_getElem? (i := 958) (rfl : lw_tbl[958]? = some (Cond.code yX9_text cX9_text 3 (some .int)))
  · exact List.mem_of_getElem? (i := 1020) (rfl : lw_tbl[1020]? = some (Cond.code yX9_lacks cX9_lacks 1 (some .boolean)))
  · exact List.mem_of_getElem? (i := 981) (rfl : lw_tbl[981]? = some (Cond.code yX9_isFunction cX9_isFunction 2 (some .boolean)))
  · exact List.mem_of_getElem? (i := 1084) (rfl : lw_tbl[1084]? = some (Cond.code yX9_isPad cX9_isPad 3 (some .boolean)))
  · exact List.mem_of_getElem? (i := 989) (rfl : lw_tbl[989]? = some (Cond.code yX9_keep cX9_keep 2 none))
  · exact List.mem_of_getElem? (i := 973) (rfl : lw_tbl[973]? = some (Cond.code yX9_undo cX9_undo 2 (some .int)))
  · exact List.mem_of_getElem? (i := 985) (rfl : lw_tbl[985]? = some (Cond.code yX9_frames cX9_frames 1 (some .int)))
  · exact List.mem_of_getElem? (i := 997) (rfl : lw_tbl[997]? = some (Cond.code yX9_frameAt cX9_frameAt 2 (some .int)))
  · exact List.mem_of_getElem? (i := 1001) (rfl : lw_tbl[1001]? = some (Cond.code yX9_saveAt cX9_saveAt 6 none))
  · exact List.mem_of_getElem? (i := 993) (rfl : lw_tbl[993]? = some (Cond.code yX9_doCall cX9_doCall 4 none))
  · exact List.mem_of_getElem? (i := 1010) (rfl : lw_tbl[1010]? = some (Cond.code yX9_doGo cX9_doGo 4 none))
  · exact List.mem_of_getElem? (i := 1028) (rfl : lw_tbl[1028]? = some (Cond.code yX9_doBack cX9_doBack 4 none))
  · exact List.mem_of_getElem? (i := 977) (rfl : lw_tbl[977]? = some (Cond.code yX9_call cX9_call 2 (some .int)))
set_option maxRecDepth 100000 in
theorem px_cw_140 : ∀ m, m < 20 → Cond.code (px_y (140 + m)) (px_c (140 + m)) (px_ml (140 + m)) (px_rt (140 + m)) ∈ lw_tbl := by
  intro m hm
  have h : m = 0 ∨ m = 1 ∨ m = 2 ∨ m = 3 ∨ m = 4 ∨ m = 5 ∨ m = 6 ∨ m = 7 ∨ m = 8 ∨ m = 9 ∨ m = 10 ∨ m = 11 ∨ m = 12 ∨ m = 13 ∨ m = 14 ∨ m = 15 ∨ m = 16 ∨ m = 17 ∨ m = 18 ∨ m = 19 := by omega
  rcases h with rfl | rfl | rfl | rfl | rfl | rfl | rfl | rfl | rfl | rfl | rfl | rfl | rfl | rfl | rfl | rfl | rfl | rfl | rfl | rfl
  · exact List.mem_of_getElem? (i := 1005) (rfl : lw_tbl[1005]? = some (Cond.code yX9_go cX9_go 2 (some .int)))
  · exact List.mem_of_getElem? (i := 1014) (rfl : lw_tbl[1014]? = some (Cond.code yX9_set cX9_set 4 (some .int)))
  · exact List.mem_of_getElem? (i := 1024) (rfl : lw_tbl[1024]? = some (Cond.code yX9_back cX9_back 1 (some .int)))
  · exact List.mem_of_getElem? (i := 1052) (rfl : lw_tbl[1052]? = some (Cond.code yX9_isCatching cX9_isCatching 3 (some .boolean)))
  · exact List.mem_of_getElem? (i := 1049) (rfl : lw_tbl[1049]? = some (Cond.code yX9_does cX9_does 3 (some .int)))
  · exact List.mem_of_getElem? (i := 1046) (rfl : lw_tbl[1046]? = some (Cond.code yX9_doesAt cX9_doesAt 6 (some .int)))
  · exact List.mem_of_getElem? (i := 1042) (rfl : lw_tbl[1042]? = some (Cond.code yX9_layCatcher cX9_layCatcher 6 none))
  · exact List.mem_of_getElem? (i := 1038) (rfl : lw_tbl[1038]? = some (Cond.code yX9_searchOf cX9_searchOf 3 (some .int)))
  · exact List.mem_of_getElem? (i := 1032) (rfl : lw_tbl[1032]? = some (Cond.code yX9_search cX9_search 3 (some .int)))
  · exact List.mem_of_getElem? (i := 1064) (rfl : lw_tbl[1064]? = some (Cond.code yX9_finish cX9_finish 5 none))
  · exact List.mem_of_getElem? (i := 1060) (rfl : lw_tbl[1060]? = some (Cond.code yX9_doRaise cX9_doRaise 4 none))
  · exact List.mem_of_getElem? (i := 1056) (rfl : lw_tbl[1056]? = some (Cond.code yX9_raise cX9_raise 2 (some .int)))
  · exact List.mem_of_getElem? (i := 1072) (rfl : lw_tbl[1072]? = some (Cond.code yX9_looseOf cX9_looseOf 3 (some .int)))
  · exact List.mem_of_getElem? (i := 1068) (rfl : lw_tbl[1068]? = some (Cond.code yX9_loose cX9_loose 1 (some .int)))
  · exact List.mem_of_getElem? (i := 1076) (rfl : lw_tbl[1076]? = some (Cond.code yX9_finished cX9_finished 2 (some .int)))
  · exact List.mem_of_getElem? (i := 1080) (rfl : lw_tbl[1080]? = some (Cond.code yX9_change cX9_change 5 (some .int)))
  · exact List.mem_of_getElem? (i := 1093) (rfl : lw_tbl[1093]? = some (Cond.code yX9_tellRow cX9_tellRow 4 (some .int)))
  · exact List.mem_of_getElem? (i := 1088) (rfl : lw_tbl[1088]? = some (Cond.code yX9_row cX9_row 4 (some .int)))
  · exact List.mem_of_getElem? (i := 1101) (rfl : lw_tbl[1101]? = some (Cond.code yX9_tellPad cX9_tellPad 4 (some .int)))
  · exact List.mem_of_getElem? (i := 1097) (rfl : lw_tbl[1097]? = some (Cond.code yX9_pad cX9_pad 4 (some .int)))
set_option maxRecDepth 100000 in
theorem px_cw_160 : ∀ m, m < 20 → Cond.code (px_y (160 + m)) (px_c (160 + m)) (px_ml (160 + m)) (px_rt (160 + m)) ∈ lw_tbl := by
  intro m hm
  have h : m = 0 ∨ m = 1 ∨ m = 2 ∨ m = 3 ∨ m = 4 ∨ m = 5 ∨ m = 6 ∨ m = 7 ∨ m = 8 ∨ m = 9 ∨ m = 10 ∨ m = 11 ∨ m = 12 ∨ m = 13 ∨ m = 14 ∨ m = 15 ∨ m = 16 ∨ m = 17 ∨ m = 18 ∨ m = 19 := by omega
  rcases h with rfl | rfl | rfl | rfl | rfl | rfl | rfl | rfl | rfl | rfl | rfl | rfl | rfl | rfl | rfl | rfl | rfl | rfl | rfl | rfl
  · exact List.mem_of_getElem? (i := 1113) (rfl : lw_tbl[1113]? = some (Cond.code yX9_as cX9_as 5 (some .int)))
  · exact List.mem_of_getElem? (i := 1126) (rfl : lw_tbl[1126]? = some (Cond.code yX9_callerOf cX9_callerOf 7 (some .int)))
  · exact List.mem_of_getElem? (i := 1122) (rfl : lw_tbl[1122]? = some (Cond.code yX9_tellFrame cX9_tellFrame 3 (some .int)))
  · exact List.mem_of_getElem? (i := 1117) (rfl : lw_tbl[1117]? = some (Cond.code yX9_frame cX9_frame 3 (some .int)))
  · exact List.mem_of_getElem? (i := 1130) (rfl : lw_tbl[1130]? = some (Cond.code yX9_register cX9_register 2 (some .int)))
  · exact List.mem_of_getElem? (i := 1134) (rfl : lw_tbl[1134]? = some (Cond.code yX9_same cX9_same 5 (some .int)))
  · exact List.mem_of_getElem? (i := 1138) (rfl : lw_tbl[1138]? = some (Cond.code yX9_see cX9_see 5 (some .int)))
  · exact List.mem_of_getElem? (i := 1142) (rfl : lw_tbl[1142]? = some (Cond.code yX9_forget cX9_forget 2 (some .int)))
  · exact List.mem_of_getElem? (i := 1105) (rfl : lw_tbl[1105]? = some (Cond.code yX9_sortsOf cX9_sortsOf 9 (some .int)))
  · exact List.mem_of_getElem? (i := 1109) (rfl : lw_tbl[1109]? = some (Cond.code yX9_askOf cX9_askOf 12 (some .int)))
  · exact List.mem_of_getElem? (i := 1155) (rfl : lw_tbl[1155]? = some (Cond.code yX9_draw cX9_draw 2 (some .int)))
  · exact List.mem_of_getElem? (i := 1163) (rfl : lw_tbl[1163]? = some (Cond.code yX9_drawCall cX9_drawCall 2 none))
  · exact List.mem_of_getElem? (i := 1167) (rfl : lw_tbl[1167]? = some (Cond.code yX9_drawGo cX9_drawGo 1 none))
  · exact List.mem_of_getElem? (i := 1171) (rfl : lw_tbl[1171]? = some (Cond.code yX9_drawSet cX9_drawSet 2 none))
  · exact List.mem_of_getElem? (i := 1175) (rfl : lw_tbl[1175]? = some (Cond.code yX9_drawRaise cX9_drawRaise 2 (some .int)))
  · exact List.mem_of_getElem? (i := 1151) (rfl : lw_tbl[1151]? = some (Cond.code yX9_drawOne cX9_drawOne 1 (some .int)))
  · exact List.mem_of_getElem? (i := 1146) (rfl : lw_tbl[1146]? = some (Cond.code yX9_drawn cX9_drawn 6 (some .int)))
  · exact List.mem_of_getElem? (i := 1179) (rfl : lw_tbl[1179]? = some (Cond.code yX9_image cX9_image 1 (some .int)))
  · exact List.mem_of_getElem? (i := 1183) (rfl : lw_tbl[1183]? = some (Cond.code yX9_restore cX9_restore 1 (some .int)))
  · exact List.mem_of_getElem? (i := 1195) (rfl : lw_tbl[1195]? = some (Cond.code yX9_padsAll cX9_padsAll 3 (some .int)))
set_option maxRecDepth 100000 in
theorem px_cw_180 : ∀ m, m < 8 → Cond.code (px_y (180 + m)) (px_c (180 + m)) (px_ml (180 + m)) (px_rt (180 + m)) ∈ lw_tbl := by
  intro m hm
  have h : m = 0 ∨ m = 1 ∨ m = 2 ∨ m = 3 ∨ m = 4 ∨ m = 5 ∨ m = 6 ∨ m = 7 := by omega
  rcases h with rfl | rfl | rfl | rfl | rfl | rfl | rfl | rfl
  · exact List.mem_of_getElem? (i := 1199) (rfl : lw_tbl[1199]? = some (Cond.code yX9_savedMany cX9_savedMany 5 (some .int)))
  · exact List.mem_of_getElem? (i := 1191) (rfl : lw_tbl[1191]? = some (Cond.code yX9_countOf cX9_countOf 2 (some .int)))
  · exact List.mem_of_getElem? (i := 1187) (rfl : lw_tbl[1187]? = some (Cond.code yX9_count cX9_count 2 (some .int)))
  · exact List.mem_of_getElem? (i := 1212) (rfl : lw_tbl[1212]? = some (Cond.code yX9_say cX9_say 3 none))
  · exact List.mem_of_getElem? (i := 1208) (rfl : lw_tbl[1208]? = some (Cond.code yX9_sayFunction cX9_sayFunction 4 none))
  · exact List.mem_of_getElem? (i := 1217) (rfl : lw_tbl[1217]? = some (Cond.code yX9_sayText cX9_sayText 2 none))
  · exact List.mem_of_getElem? (i := 1203) (rfl : lw_tbl[1203]? = some (Cond.code yX9_digest cX9_digest 3 (some .long)))
  · exact List.mem_of_getElem? (i := 393) (rfl : lw_tbl[393]? = some (Cond.code yJ7_fill_53178 cJ7_fill_53178 4 none))
theorem px_cwl : ∀ m, m < 188 → Cond.code (px_y m) (px_c m) (px_ml m) (px_rt m) ∈ lw_tbl := by
  intro m hm
  by_cases h0 : m < 20
  · have h := px_cw_0 (m - 0) (by omega)
    rw [show 0 + (m - 0) = m by omega] at h
    exact h
  by_cases h20 : m < 40
  · have h := px_cw_20 (m - 20) (by omega)
    rw [show 20 + (m - 20) = m by omega] at h
    exact h
  by_cases h40 : m < 60
  · have h := px_cw_40 (m - 40) (by omega)
    rw [show 40 + (m - 40) = m by omega] at h
    exact h
  by_cases h60 : m < 80
  · have h := px_cw_60 (m - 60) (by omega)
    rw [show 60 + (m - 60) = m by omega] at h
    exact h
  by_cases h80 : m < 100
  · have h := px_cw_80 (m - 80) (by omega)
    rw [show 80 + (m - 80) = m by omega] at h
    exact h
  by_cases h100 : m < 120
  · have h := px_cw_100 (m - 100) (by omega)
    rw [show 100 + (m - 100) = m by omega] at h
    exact h
  by_cases h120 : m < 140
  · have h := px_cw_120 (m - 120) (by omega)
    rw [show 120 + (m - 120) = m by omega] at h
    exact h
  by_cases h140 : m < 160
  · have h := px_cw_140 (m - 140) (by omega)
    rw [show 140 + (m - 140) = m by omega] at h
    exact h
  by_cases h160 : m < 180
  · have h := px_cw_160 (m - 160) (by omega)
    rw [show 160 + (m - 160) = m by omega] at h
    exact h
  by_cases h180 : m < 188
  · have h := px_cw_180 (m - 180) (by omega)
    rw [show 180 + (m - 180) = m by omega] at h
    exact h
  exact absurd hm (by omega)
end
section
/-! ## a machine of its own over numbers: refs count from the heap's base on, the script is retAddr 0 -/
abbrev pz_E : Type := (Nat × (Nat → Int32)) ⊕ ((Nat × (Nat → Option Nat)) ⊕ (Nat × List Value))
abbrev pz_H : Type := (Nat → pz_E) × (Nat × Nat)
abbrev pz_L : Type := List (Option Value)
abbrev pz_X : Type := (Nat × (pz_L × (List Value × pz_H))) ⊕ (Option Value ⊕ (Nat × (List Value × List Value)))
def pz_go (pc : Nat) (L : pz_L) (st : List Value) (h : pz_H) : Option pz_X := some (.inl (pc, L, st, h))
def pz_up (h : pz_H) (i : Nat) (e : pz_E) : pz_H := (fun j => if j = i then e else h.1 j, h.2)
def pz_nw (h : pz_H) (e : pz_E) (n : Nat) : pz_H := (fun j => if j = h.2.1 then e else h.1 j, (h.2.1 + 1, h.2.2 + n))
def pz_get (L : pz_L) (i : Nat) : Option Value := match L[i]? with
  | some (some v) => some v
  | _ => none
def pz_c2 (L : pz_L) (i : Nat) : Bool := match i with
  | 0 => false
  | k + 1 => match pz_get L k with
    | some v => v.category == 2
    | none => false
def pz_s1 (L : pz_L) (i : Nat) (v : Value) : Option pz_L := match Nat.blt i L.length && !pz_c2 L i with
  | true => some (L.set i (some v))
  | false => none
def pz_s2 (L : pz_L) (i : Nat) (v : Value) : Option pz_L := match Nat.blt (i + 1) L.length && !pz_c2 L i with
  | true => some ((L.set i (some v)).set (i + 1) none)
  | false => none
def pz_obj (h : pz_H) (i c : Nat) : Option (List Value) := match h.1 i with
  | .inr (.inr (c', fs)) => if c' = c ∧ i < h.2.1 then some fs else none
  | _ => none
def pz_arr (h : pz_H) (i : Nat) : Option (Nat × (Nat → Int32)) := match h.1 i with
  | .inl q => if i < h.2.1 then some q else none
  | _ => none
def pz_arq (h : pz_H) (i : Nat) : Option (Nat × (Nat → Option Nat)) := match h.1 i with
  | .inr (.inl q) => if i < h.2.1 then some q else none
  | _ => none
def pz_fit (t : FieldType) (v : Value) : Bool := match t, v with
  | .int, .int _ => true
  | .boolean, .int x => x == 0 || x == 1
  | .long, .long _ => true
  | .object _, .null => true
  | .object _, .ref _ => true
  | .array _, .null => true
  | .array _, .ref _ => true
  | _, _ => false
def pz_tg (pc : Nat) (off : Int) : Option Nat := match (pc : Int) + off with
  | .ofNat t => some t
  | .negSucc _ => none
def pz_jp (pc : Nat) (off : Int) (L : pz_L) (st : List Value) (h : pz_H) : Option pz_X := (pz_tg pc off).bind fun t => pz_go t L st h
def pz_cc (c : Jvm.ClassFile.Cond) (x y : Int32) : Bool := match c with
  | .eq => decide (x = y)
  | .ne => decide (¬ x = y)
  | .lt => decide (x < y)
  | .ge => decide (y ≤ x)
  | .gt => decide (y < x)
  | .le => decide (x ≤ y)
def pz_br (b : Bool) (pc : Nat) (off : Int) (L : pz_L) (st : List Value) (h : pz_H) : Option pz_X := (pz_tg pc off).bind fun t => match b with
  | true => pz_go t L st h
  | false => pz_go (pc + 3) L st h
def pz_i2 (f : Int32 → Int32 → Option Int32) (pc : Nat) (L : pz_L) (st : List Value) (h : pz_H) : Option pz_X := match st with
  | .int y :: .int x :: r => (f x y).bind fun v => pz_go (pc + 1) L (.int v :: r) h
  | _ => none
def pz_l2 (f : Int64 → Int64 → Option Int64) (pc : Nat) (L : pz_L) (st : List Value) (h : pz_H) : Option pz_X := match st with
  | .long y :: .long x :: r => (f x y).bind fun v => pz_go (pc + 1) L (.long v :: r) h
  | _ => none
def pz_ild (i pc' : Nat) (L : pz_L) (st : List Value) (h : pz_H) : Option pz_X := match pz_get L i with
  | some (.int x) => pz_go pc' L (.int x :: st) h
  | _ => none
def pz_lld (i pc' : Nat) (L : pz_L) (st : List Value) (h : pz_H) : Option pz_X := match pz_get L i with
  | some (.long x) => pz_go pc' L (.long x :: st) h
  | _ => none
def pz_ald (i pc' : Nat) (L : pz_L) (st : List Value) (h : pz_H) : Option pz_X := match pz_get L i with
  | some (.ref x) => pz_go pc' L (.ref x :: st) h
  | some .null => pz_go pc' L (.null :: st) h
  | some (.retAddr q) => pz_go pc' L (.retAddr q :: st) h
  | _ => none
def pz_ist (i pc' : Nat) (L : pz_L) (st : List Value) (h : pz_H) : Option pz_X := match st with
  | .int x :: r => (pz_s1 L i (.int x)).bind fun L' => pz_go pc' L' r h
  | _ => none
def pz_lst (i pc' : Nat) (L : pz_L) (st : List Value) (h : pz_H) : Option pz_X := match st with
  | .long x :: r => (pz_s2 L i (.long x)).bind fun L' => pz_go pc' L' r h
  | _ => none
def pz_ast (i pc' : Nat) (L : pz_L) (st : List Value) (h : pz_H) : Option pz_X := match st with
  | .ref x :: r => (pz_s1 L i (.ref x)).bind fun L' => pz_go pc' L' r h
  | .null :: r => (pz_s1 L i .null).bind fun L' => pz_go pc' L' r h
  | _ => none
def pz_ixd (x : Int32) (n : Nat) : Bool := !(decide (x < 0)) && Nat.blt x.toNatClampNeg n
def pz_iald (S : (Nat → Int32) × Nat) (pc : Nat) (L : pz_L) (st : List Value) (h : pz_H) : Option pz_X := match st with
  | .int j :: .ref i :: r => (pz_arr h i).bind fun q => match pz_ixd j q.1 with
    | true => pz_go (pc + 1) L (.int (q.2 j.toNatClampNeg) :: r) h
    | false => none
  | .int j :: .retAddr _ :: r => match pz_ixd j S.2 with
    | true => pz_go (pc + 1) L (.int (S.1 j.toNatClampNeg) :: r) h
    | false => none
  | _ => none
def pz_iast (pc : Nat) (L : pz_L) (st : List Value) (h : pz_H) : Option pz_X := match st with
  | .int x :: .int j :: .ref i :: r => (pz_arr h i).bind fun q => match pz_ixd j q.1 with
    | true => pz_go (pc + 1) L r (pz_up h i (.inl (q.1, upd q.2 j.toNatClampNeg x)))
    | false => none
  | _ => none
def pz_aald (pc : Nat) (L : pz_L) (st : List Value) (h : pz_H) : Option pz_X := match st with
  | .int j :: .ref i :: r => (pz_arq h i).bind fun q => match pz_ixd j q.1 with
    | true => pz_go (pc + 1) L (va_rf (q.2 j.toNatClampNeg) :: r) h
    | false => none
  | _ => none
def pz_aast (pc : Nat) (L : pz_L) (st : List Value) (h : pz_H) : Option pz_X := match st with
  | .ref v :: .int j :: .ref i :: r => (pz_arq h i).bind fun q => match pz_ixd j q.1 && (pz_obj h v 3).isSome with
    | true => pz_go (pc + 1) L r (pz_up h i (.inr (.inl (q.1, va_up q.2 j.toNatClampNeg (some v)))))
    | false => none
  | .null :: .int j :: .ref i :: r => (pz_arq h i).bind fun q => match pz_ixd j q.1 with
    | true => pz_go (pc + 1) L r (pz_up h i (.inr (.inl (q.1, va_up q.2 j.toNatClampNeg none))))
    | false => none
  | _ => none
def pz_alen (S : (Nat → Int32) × Nat) (pc : Nat) (L : pz_L) (st : List Value) (h : pz_H) : Option pz_X := match st with
  | .ref i :: r => (pz_arr h i).bind fun q => pz_go (pc + 1) L (.int (Int32.ofNat q.1) :: r) h
  | .retAddr _ :: r => pz_go (pc + 1) L (.int (Int32.ofNat S.2) :: r) h
  | _ => none
def pz_getf (a b pc : Nat) (L : pz_L) (st : List Value) (h : pz_H) : Option pz_X := match st with
  | .ref i :: r => (pz_obj h i a).bind fun fs => (fs[b]?).bind fun v => pz_go (pc + 3) L (v :: r) h
  | _ => none
def pz_putf (a b pc : Nat) (L : pz_L) (st : List Value) (h : pz_H) : Option pz_X := match st with
  | v :: .ref i :: r => (pz_obj h i a).bind fun fs => match Nat.blt b fs.length && pz_fit (px_ty a b) v with
    | true => pz_go (pc + 3) L r (pz_up h i (.inr (.inr (a, fs.set b v))))
    | false => none
  | _ => none
def pz_newa (pc : Nat) (L : pz_L) (st : List Value) (h : pz_H) : Option pz_X := match st with
  | .int n :: r => match !(decide (n < 0)) && Nat.ble (n.toNatClampNeg * 4) 536870912 with
    | true => pz_go (pc + 2) L (.ref h.2.1 :: r) (pz_nw h (.inl (n.toNatClampNeg, fun _ => 0)) n.toNatClampNeg)
    | false => none
  | _ => none
def pz_newq (pc : Nat) (L : pz_L) (st : List Value) (h : pz_H) : Option pz_X := match st with
  | .int n :: r => match !(decide (n < 0)) && Nat.ble (n.toNatClampNeg * 4) 536870912 with
    | true => pz_go (pc + 3) L (.ref h.2.1 :: r) (pz_nw h (.inr (.inl (n.toNatClampNeg, fun _ => none))) n.toNatClampNeg)
    | false => none
  | _ => none
def pz_sum (st : List Value) : Nat := (st.map fun v => v.category).sum
def pz_sl : List Value → pz_L
  | [] => []
  | v :: vs => if v.category = 2 then some v :: none :: pz_sl vs else some v :: pz_sl vs
def pz_in (n : Nat) (vs : List Value) : pz_L := pz_sl vs ++ List.replicate (n - (pz_sl vs).length) none
def pz_call (a n : Nat) (st : List Value) : Option pz_X := match Nat.ble n st.length && Nat.ble (pz_sum (st.drop n)) 8 && Nat.ble (pz_sl (st.take n).reverse).length (px_ml a) with
  | true => some (.inr (.inr (a, (st.take n).reverse, st.drop n)))
  | false => none
def pz_isp (a b pc : Nat) (L : pz_L) (st : List Value) (h : pz_H) : Option pz_X := if a = 1000 then (match st with
    | .ref _ :: r => match Nat.ble (pz_sum r) 8 with
      | true => pz_go (pc + 3) L r h
      | false => none
    | _ => none)
  else match st.drop b with
    | .ref _ :: _ => pz_call a (b + 1) st
    | _ => none
def pz_ivi (a b pc : Nat) (L : pz_L) (st : List Value) (h : pz_H) : Option pz_X := if a = 1002 then (match st with
    | .ref i :: r => (pz_arr h i).bind fun q => match Nat.ble (pz_sum r) 8 with
      | true => pz_go (pc + 3) L (.ref h.2.1 :: r) (pz_nw h (.inl q) q.1)
      | false => none
    | _ => none)
  else match st.drop b with
    | .ref i :: _ => if (pz_obj h i (px_o a)).isSome = true then pz_call a (b + 1) st else none
    | _ => none
def pz_cpy (pc : Nat) (L : pz_L) (st : List Value) (h : pz_H) : Option pz_X := match st with
  | .int n :: .int dp :: .ref d :: .int sp :: .ref e :: r => (pz_arr h e).bind fun f => (pz_arr h d).bind fun g =>
    if ¬ sp < 0 ∧ ¬ dp < 0 ∧ ¬ n < 0 ∧ sp.toNatClampNeg + n.toNatClampNeg ≤ f.1 ∧ dp.toNatClampNeg + n.toNatClampNeg ≤ g.1 ∧ pz_sum r ≤ 8 then
      pz_go (pc + 3) L r (pz_up h d (.inl (g.1, va_cpy f.2 g.2 sp.toNatClampNeg dp.toNatClampNeg n.toNatClampNeg)))
    else none
  | _ => none
def pz_mx (f : Int32 → Int32 → Int32) (pc : Nat) (L : pz_L) (st : List Value) (h : pz_H) : Option pz_X := match st with
  | .int y :: .int x :: r => match Nat.ble (pz_sum r) 8 with
    | true => pz_go (pc + 3) L (.int (f x y) :: r) h
    | false => none
  | _ => none
def pz_ist_ (a b pc : Nat) (L : pz_L) (st : List Value) (h : pz_H) : Option pz_X :=
  if a = 1001 then pz_cpy pc L st h
  else if a = 1003 then pz_mx (fun x y => if x < y then y else x) pc L st h
  else if a = 1004 then pz_mx (fun x y => if y < x then y else x) pc L st h
  else pz_call a b st
def pz_ret (rt : Option FieldType) (v : Value) (st : List Value) : Option pz_X := match st, rt with
  | [], some t => if pz_fit t v = true then some (.inr (.inl (some v))) else none
  | _, _ => none
def pz_step (S : (Nat → Int32) × Nat) (rt : Option FieldType) (k : px_K) (pc : Nat) (L : pz_L) (st : List Value) (h : pz_H) : Option pz_X := match k.1 with
  | .iconst n => pz_go (pc + 1) L (.int (Int32.ofInt n) :: st) h
  | .bipush n => pz_go (pc + 2) L (.int (Int8.ofInt n).toInt32 :: st) h
  | .sipush n => pz_go (pc + 3) L (.int (Int16.ofInt n).toInt32 :: st) h
  | .lconst n => pz_go (pc + 1) L (.long (Int64.ofNat (n : Nat)) :: st) h
  | .ldc_w _ => pz_go (pc + 3) L (.int (Int32.ofInt k.2.2.2.2) :: st) h
  | .ldc2_w _ => pz_go (pc + 3) L (.long (Int64.ofInt k.2.2.2.2) :: st) h
  | .aconst_null => pz_go (pc + 1) L (.null :: st) h
  | .iload_n i => pz_ild i (pc + 1) L st h
  | .iload i => pz_ild i (pc + 2) L st h
  | .lload_n i => pz_lld i (pc + 1) L st h
  | .lload i => pz_lld i (pc + 2) L st h
  | .aload_n i => pz_ald i (pc + 1) L st h
  | .aload i => pz_ald i (pc + 2) L st h
  | .istore_n i => pz_ist i (pc + 1) L st h
  | .istore i => pz_ist i (pc + 2) L st h
  | .lstore_n i => pz_lst i (pc + 1) L st h
  | .lstore i => pz_lst i (pc + 2) L st h
  | .astore_n i => pz_ast i (pc + 1) L st h
  | .astore i => pz_ast i (pc + 2) L st h
  | .iinc i n => match pz_get L i with
    | some (.int x) => (pz_s1 L i (.int (x + Int32.ofInt n))).bind fun L' => pz_go (pc + 3) L' st h
    | _ => none
  | .iadd => pz_i2 (fun x y => some (x + y)) pc L st h
  | .isub => pz_i2 (fun x y => some (x - y)) pc L st h
  | .imul => pz_i2 (fun x y => some (x * y)) pc L st h
  | .iand => pz_i2 (fun x y => some (x &&& y)) pc L st h
  | .ior => pz_i2 (fun x y => some (x ||| y)) pc L st h
  | .ishl => pz_i2 (fun x y => some (x <<< (y &&& 31))) pc L st h
  | .ishr => pz_i2 (fun x y => some (x >>> (y &&& 31))) pc L st h
  | .idiv => pz_i2 (fun x y => if y = 0 then none else some (x / y)) pc L st h
  | .irem => pz_i2 (fun x y => if y = 0 then none else some (x - x / y * y)) pc L st h
  | .ladd => pz_l2 (fun x y => some (x + y)) pc L st h
  | .lmul => pz_l2 (fun x y => some (x * y)) pc L st h
  | .land => pz_l2 (fun x y => some (x &&& y)) pc L st h
  | .ldiv => pz_l2 (fun x y => if y = 0 then none else some (x / y)) pc L st h
  | .lrem => pz_l2 (fun x y => if y = 0 then none else some (x - x / y * y)) pc L st h
  | .lcmp => match st with
    | .long y :: .long x :: r => pz_go (pc + 1) L (.int (lg_cmp x y) :: r) h
    | _ => none
  | .i2l => match st with
    | .int x :: r => pz_go (pc + 1) L (.long x.toInt64 :: r) h
    | _ => none
  | .l2i => match st with
    | .long x :: r => pz_go (pc + 1) L (.int x.toInt32 :: r) h
    | _ => none
  | .dup => match st with
    | v :: r => if v.category = 1 then pz_go (pc + 1) L (v :: v :: r) h else none
    | _ => none
  | .dup2 => match st with
    | v :: w :: r => if v.category = 1 ∧ w.category = 1 then pz_go (pc + 1) L (v :: w :: v :: w :: r) h else none
    | _ => none
  | .goto off => pz_jp pc off L st h
  | .ifCond c off => match st with
    | .int x :: r => pz_br (pz_cc c x 0) pc off L r h
    | _ => none
  | .if_icmp c off => match st with
    | .int y :: .int x :: r => pz_br (pz_cc c x y) pc off L r h
    | _ => none
  | .ifnonnull off => match st with
    | .ref _ :: r => pz_jp pc off L r h
    | .null :: r => pz_go (pc + 3) L r h
    | _ => none
  | .lookupswitch d ps => match st with
    | .int x :: r => if (ps.toList.zip (ps.toList.drop 1)).all (fun (a, next) => a.1 < next.1) = true then pz_jp pc (Op.lookupswitch.offset ps.toList d x.toInt) L r h else none
    | _ => none
  | .tableswitch d lo hi offs => match st with
    | .int x :: r => if x.toInt < lo ∨ hi < x.toInt then pz_jp pc d L r h else (offs[(x.toInt - lo).toNat]?).bind fun o => pz_jp pc o L r h
    | _ => none
  | .iaload => pz_iald S pc L st h
  | .iastore => pz_iast pc L st h
  | .aaload => pz_aald pc L st h
  | .aastore => pz_aast pc L st h
  | .arraylength => pz_alen S pc L st h
  | .getfield _ => pz_getf k.2.2.1 k.2.2.2.1 pc L st h
  | .putfield _ => pz_putf k.2.2.1 k.2.2.2.1 pc L st h
  | .new _ => pz_go (pc + 3) L (.ref h.2.1 :: st) (pz_nw h (.inr (.inr (k.2.2.1, px_df k.2.2.1))) (px_N k.2.2.1))
  | .newarray .int => pz_newa pc L st h
  | .anewarray _ => pz_newq pc L st h
  | .checkcast _ => match st with
    | .ref i :: r => (pz_arr h i).bind fun _ => pz_go (pc + 3) L (.ref i :: r) h
    | _ => none
  | .invokespecial _ => pz_isp k.2.2.1 k.2.2.2.1 pc L st h
  | .invokevirtual _ => pz_ivi k.2.2.1 k.2.2.2.1 pc L st h
  | .invokestatic _ => pz_ist_ k.2.2.1 k.2.2.2.1 pc L st h
  | .ireturn => match st with
    | .int v :: r => pz_ret rt (.int v) r
    | _ => none
  | .lreturn => match st with
    | .long v :: r => pz_ret rt (.long v) r
    | _ => none
  | .areturn => match st with
    | .ref v :: r => pz_ret rt (.ref v) r
    | .null :: r => pz_ret rt .null r
    | _ => none
  | .return_ => match st, rt with
    | [], none => some (.inr (.inl none))
    | _, _ => none
  | _ => none
def pz_run (S : (Nat → Int32) × Nat) : Nat → Nat → Nat → pz_L → List Value → pz_H → Option (Option Value × pz_H)
  | 0, _, _, _, _, _ => none
  | n + 1, m, pc, L, st, h => match px_at m pc with
    | none => none
    | some k => match pz_step S (px_rt m) k pc L st h with
      | none => none
      | some (.inl q) => pz_run S n m q.1 q.2.1 q.2.2.1 q.2.2.2
      | some (.inr (.inl v)) => some (v, h)
      | some (.inr (.inr q)) => match pz_run S n q.1 0 (pz_in (px_ml q.1) q.2.1) [] h with
        | none => none
        | some u => pz_run S n m (pc + 3) L (u.1.toList ++ q.2.2) u.2
def pz_ln (k : px_K) : Bool := match k.1 with
  | .bipush _ | .iload _ | .lload _ | .aload _ | .istore _ | .lstore _ | .astore _ | .newarray _ => k.2.1 == 2
  | .sipush _ | .ldc_w _ | .ldc2_w _ | .iinc _ _ | .goto _ | .ifCond _ _ | .if_icmp _ _ | .ifnonnull _ | .getfield _ | .putfield _ | .new _ | .anewarray _ | .checkcast _ | .invokespecial _ | .invokevirtual _ | .invokestatic _ => k.2.1 == 3
  | .lookupswitch _ _ | .tableswitch _ _ _ _ => true
  | _ => k.2.1 == 1
set_option maxRecDepth 100000 in
theorem pz_ln_k : ((List.range px_tabs.length).all fun m => (px_tab m).all fun q => pz_ln q.2) = true := by decide +kernel
end
section
/-! ## the tables' facts, taken out -/
theorem px_of {m pc : Nat} {k : px_K} (h : px_at m pc = some k) : (pc, k) ∈ px_tab m := by
  unfold px_at at h
  generalize px_tab m = l at h
  induction l with
  | nil => simp at h
  | cons q t ih =>
    obtain ⟨a, b⟩ := q
    rw [List.lookup_cons] at h
    by_cases e : pc == a
    · rw [e] at h
      cases h
      rw [beq_iff_eq.mp e]
      exact List.mem_cons_self
    · rw [show (pc == a) = false by simpa using e] at h
      exact List.mem_cons_of_mem _ (ih h)
theorem px_tlen : px_tabs.length = 189 := by decide +kernel
theorem px_lt {m pc : Nat} {k : px_K} (h : px_at m pc = some k) : m < 189 := by
  have h1 := px_of h
  rcases Nat.lt_or_ge m 189 with q | q
  · exact q
  · unfold px_tab at h1
    rw [List.getD_eq_getElem?_getD, List.getElem?_eq_none (by rw [px_tlen]; exact q)] at h1
    cases h1
theorem px_dec {m pc : Nat} {k : px_K} (h : px_at m pc = some k) : decode (px_c m) pc = .ok (k.1, k.2.1) := by
  have h1 := List.all_eq_true.mp (px_dall m (px_lt h)) _ (px_of h)
  unfold px_dk at h1
  split at h1
  · rename_i p hp
    simp only [Bool.and_eq_true, decide_eq_true_eq, beq_iff_eq] at h1
    rw [hp, ← h1.1, ← h1.2]
  · cases h1
theorem px_lnk {m pc : Nat} {k : px_K} (h : px_at m pc = some k) : px_lk m k = true := by
  have h1 := List.all_eq_true.mp (List.all_eq_true.mp px_lk_k m (List.mem_range.mpr (px_lt h))) _ (px_of h)
  exact h1
theorem px_len {m pc : Nat} {k : px_K} (h : px_at m pc = some k) : pz_ln k = true := by
  have h1 := List.all_eq_true.mp (List.all_eq_true.mp pz_ln_k m (List.mem_range.mpr (by rw [px_tlen]; exact px_lt h))) _ (px_of h)
  exact h1
/-- a class by its number -/
theorem px_c10 {P : Nat → Prop} (h0 : P 0) (h1 : P 1) (h2 : P 2) (h3 : P 3) (h4 : P 4) (h5 : P 5) (h6 : P 6) (h7 : P 7) (h8 : P 8) (h9 : P 9) {c : Nat} (hc : c < 10) : P c := by
  have h : c = 0 ∨ c = 1 ∨ c = 2 ∨ c = 3 ∨ c = 4 ∨ c = 5 ∨ c = 6 ∨ c = 7 ∨ c = 8 ∨ c = 9 := by omega
  rcases h with rfl | rfl | rfl | rfl | rfl | rfl | rfl | rfl | rfl | rfl <;> assumption
theorem px_clat {c : Nat} (hc : c < 10) : px_cl[c]? = some (px_R c, px_T c, px_N c) := px_c10 (P := fun c => px_cl[c]? = some (px_R c, px_T c, px_N c)) rfl rfl rfl rfl rfl rfl rfl rfl rfl rfl hc
theorem px_tyok {c : Nat} (hc : c < 10) : ∀ k, k < px_N c → parseFieldDescriptor (px_T c k).2.2.1 = some (px_ty c k) := px_c10 (P := fun c => ∀ k, k < px_N c → parseFieldDescriptor (px_T c k).2.2.1 = some (px_ty c k)) tyX0_ok tyX1_ok tyX2_ok tyX3_ok tyX4_ok tyX5_ok tyX6_ok tyX7_ok tyX8_ok tyX9_ok hc
theorem px_nm {c : Nat} (hc : c < 10) : ∀ a, a < px_N c → ∀ b, b < px_N c → a ≠ b → (px_T c a).2.1 ≠ (px_T c b).2.1 := px_c10 (P := fun c => ∀ a, a < px_N c → ∀ b, b < px_N c → a ≠ b → (px_T c a).2.1 ≠ (px_T c b).2.1) nmX0 nmX1 nmX2 nmX3 nmX4 nmX5 nmX6 nmX7 nmX8 nmX9 hc
set_option maxRecDepth 100000 in
theorem px_uws : ((List.range 10).all fun c => (u_ws (px_R c) (px_T c) (px_N c)).all fun w => decide (w ∈ lw_tbl) && goodWord w) = true := by decide +kernel
theorem px_uin {c : Nat} (hc : c < 10) : ∀ w ∈ u_ws (px_R c) (px_T c) (px_N c), w ∈ px_gt := by
  intro w hw
  have h := List.all_eq_true.mp (List.all_eq_true.mp px_uws c (List.mem_range.mpr hc)) w hw
  simp only [Bool.and_eq_true, decide_eq_true_eq] at h
  exact px_in h.1 h.2
theorem px_dfk : ((List.range 10).all fun c => (px_df c).length == px_N c && (List.range (px_N c)).all fun k => decide (defaultValue (px_ty c k) = vp_V (px_df c) k)) = true := by decide +kernel
theorem px_dfl {c : Nat} (hc : c < 10) : (px_df c).length = px_N c ∧ ∀ k, k < px_N c → defaultValue (px_ty c k) = vp_V (px_df c) k := by
  have h := List.all_eq_true.mp px_dfk c (List.mem_range.mpr hc)
  simp only [Bool.and_eq_true, beq_iff_eq] at h
  exact ⟨h.1, fun k hk => of_decide_eq_true (List.all_eq_true.mp h.2 k (List.mem_range.mpr hk))⟩
theorem px_dfv : ((List.range 10).all fun c => (px_df c).all fun v => decide (v = .null) || decide (v = .int 0) || decide (v = .long 0)) = true := by decide +kernel
/-! ## links -/
theorem px_fkk {m i a b : Nat} (h : px_fk m i a b = true) : a < 10 ∧ b < px_N a ∧ Cond.fieldLink (px_R (px_o m)) i (px_T a b).1 (px_T a b).2.1 (px_T a b).2.2.1 ∈ px_gt := by
  unfold px_fk at h
  simp only [Bool.and_eq_true, List.any_eq_true, beq_iff_eq] at h
  obtain ⟨⟨⟨q, hq, ⟨⟨h1, h2⟩, h3⟩, h4⟩, h5⟩, h6⟩ := h
  have h7 := List.all_eq_true.mp px_fl_k q hq
  have h8 := List.mem_of_getElem? (of_decide_eq_true h7)
  rw [h1, h2, h3, h4] at h8
  exact ⟨Nat.le_of_ble_eq_true h5, Nat.le_of_ble_eq_true h6, px_in h8 rfl⟩
theorem px_nkk {m i a : Nat} (h : px_nk m i a = true) : a < 10 ∧ Cond.classLink (px_R (px_o m)) i (px_R a) ∈ px_gt ∧ Cond.instantiable (px_R a) (px_N a) ∈ px_gt ∧ Cond.initialized (px_R a) ∈ px_gt := by
  unfold px_nk at h
  simp only [Bool.and_eq_true, List.any_eq_true, beq_iff_eq] at h
  obtain ⟨⟨q, hq, ⟨h1, h2⟩, h3⟩, h5⟩ := h
  have h7 := List.all_eq_true.mp px_nl_k q hq
  simp only [Bool.and_eq_true, decide_eq_true_eq] at h7
  rw [h1, h2, h3] at h7
  exact ⟨Nat.le_of_ble_eq_true h5, px_in (List.mem_of_getElem? h7.1.1) rfl, px_in (List.mem_of_getElem? h7.1.2) rfl, px_in (List.mem_of_getElem? h7.2) rfl⟩
theorem px_xkk {m i a : Nat} (h : px_xk m i a = true) : Cond.methodLink (px_R (px_o m)) i (px_xn a) ∈ px_gt ∧ 1 ≤ px_fr m ∧ 30 ≤ px_lo m := by
  unfold px_xk at h
  simp only [Bool.and_eq_true, List.any_eq_true, beq_iff_eq] at h
  obtain ⟨⟨⟨q, hq, ⟨h1, h2⟩, h3⟩, h5⟩, h6⟩ := h
  have h7 := List.all_eq_true.mp px_xl_k q hq
  have h8 := List.mem_of_getElem? (of_decide_eq_true h7)
  rw [h1, h2, h3] at h8
  exact ⟨px_in h8 rfl, Nat.le_of_ble_eq_true h5, Nat.le_of_ble_eq_true h6⟩
def px_nest : List Cond := lw_tbl.filter fun w => match w with
  | .methodLinkNest .. => true
  | _ => false
theorem px_jkk {m i : Nat} {k : px_K} (h : px_jk m i k = true) : k.2.2.1 < 188 ∧ k.2.2.2.1 = px_np k.2.2.1 ∧ px_fr k.2.2.1 + 1 ≤ px_fr m ∧ 8 + (px_ml k.2.2.1 + 11) + px_lo k.2.2.1 ≤ px_lo m ∧
    (Cond.methodLink (px_R (px_o m)) i (px_y k.2.2.1) ∈ px_gt ∨ Cond.methodLinkNest (px_R (px_o m)) i (px_y k.2.2.1) RX8 ∈ px_nest) := by
  unfold px_jk at h
  simp only [Bool.and_eq_true, List.any_eq_true, beq_iff_eq] at h
  obtain ⟨⟨⟨⟨⟨q, hq, ⟨⟨h1, h2⟩, h3⟩, h4⟩, h5⟩, h6⟩, h7⟩, h8⟩ := h
  have g7 := List.all_eq_true.mp px_jl_k q hq
  have g8 := List.mem_of_getElem? (of_decide_eq_true g7)
  rw [h1, h2, h3] at g8
  refine ⟨Nat.le_of_ble_eq_true h5, h6, Nat.le_of_ble_eq_true h7, by have := Nat.le_of_ble_eq_true h8; omega, ?_⟩
  split at g8
  · exact Or.inr (List.mem_filter.mpr ⟨g8, rfl⟩)
  · exact Or.inl (px_in g8 rfl)
theorem px_mkk {a : Nat} (ha : a < 188) : Cond.initialized (px_y a).cls ∈ px_gt ∧ ((px_ms a).2.1 = 1 → Cond.static (px_y a) ∈ px_gt) ∧ ((px_ms a).2.1 = 0 → Cond.instanceMethod (px_y a) ∈ px_gt) ∧ (((px_ms a).2.2.2.1 == 9999) = false → Cond.selects (px_y a).cls (px_y a) (px_y a) ∈ px_gt) ∧
    ((px_y a).cls ≠ "java/lang/invoke/MethodHandle" ∧ (px_y a).cls ≠ "java/lang/invoke/VarHandle" ∧ (parseMethodDescriptor (px_y a).desc).map (fun d => d.parameters.length) = some (px_np a)) ∧ plainName (px_y a).cls = true ∧ (px_y a).cls = px_R (px_o a) := by
  have h := List.all_eq_true.mp px_mk_k a (List.mem_range.mpr ha)
  unfold px_mk at h
  simp only [Bool.and_eq_true, decide_eq_true_eq] at h
  obtain ⟨⟨⟨⟨⟨⟨⟨h1, h2⟩, h3⟩, h4⟩, h5⟩, h6⟩, h7⟩, h8⟩ := h
  refine ⟨px_in (List.mem_of_getElem? h1) rfl, fun e => ?_, fun e => ?_, fun e => ?_, ⟨h5, h6, h4⟩, h7, h8⟩
  · rw [if_pos e] at h2
    exact px_in (List.mem_of_getElem? (of_decide_eq_true h2)) rfl
  · rw [if_neg (by rw [e]; decide)] at h2
    exact px_in (List.mem_of_getElem? (of_decide_eq_true h2)) rfl
  · rw [e] at h3
    simp only [Bool.false_or] at h3
    exact px_in (List.mem_of_getElem? (of_decide_eq_true h3)) rfl
def px_ws (a : Nat) : List Cond := Cond.code (px_y a) (px_c a) (px_ml a) (px_rt a) :: px_gt
theorem px_wsg {a : Nat} (ha : a < 188) : GoodIn px_gt (px_ws a) := by
  have hc : Cond.code (px_y a) (px_c a) (px_ml a) (px_rt a) ∈ px_gt := px_in (px_cwl a ha) rfl
  intro w hw
  have hw2 : w ∈ px_gt := by
    rcases List.mem_cons.mp hw with h | h
    · rw [h]; exact hc
    · exact h
  exact ⟨hw2, good_of_word (List.mem_filter.mp hw2).2⟩
end
section
/-! ## what the machine's heap is to ours -/
def pz_v (b bs : Nat) : Value → Value
  | .ref i => .ref (b + i)
  | .retAddr _ => .ref bs
  | .int x => .int x
  | .long x => .long x
  | .float x => .float x
  | .double x => .double x
  | .null => .null
theorem pz_vc (b bs : Nat) (v : Value) : (pz_v b bs v).category = v.category := by cases v <;> rfl
theorem pz_vsum (b bs : Nat) (st : List Value) : ((st.map (pz_v b bs)).map fun v => v.category).sum = pz_sum st := by
  unfold pz_sum
  rw [List.map_map]
  congr 1
  apply List.map_congr_left
  intro v _
  exact pz_vc b bs v
abbrev pz_D : Type := va_G × ((Nat × Nat) × (ClassId × ClassId))
def pz_e (G : pz_D) : pz_E → va_E
  | .inl q => .inl (G.2.2.1, q.1, .inl q.2)
  | .inr (.inl q) => .inl (G.2.2.2, q.1, .inr (.inr (.inr (.inr (fun j => (q.2 j).map (fun z => G.2.1.1 + z))))))
  | .inr (.inr q) => .inr (q.1, q.2.map (pz_v G.2.1.1 G.2.1.2))
def pz_at (G : pz_D) (i : Nat) (e : pz_E) (H : Heap) : Prop := va_at G.1 px_cl (G.2.1.1 + i, pz_e G e) H
def pz_R (G : pz_D) (h : pz_H) (H : Heap) : Prop := H.size = G.2.1.1 + h.2.1 ∧ ∀ i, i < h.2.1 → pz_at G i (h.1 i) H
theorem pz_R.up {G : pz_D} {h : pz_H} {H H1 : Heap} {i : Nat} {e : pz_E} (r : pz_R G h H) (hi : i < h.2.1) (z : H1.size = H.size) (o : ∀ q, q ≠ G.2.1.1 + i → H1[q]? = H[q]?) (he : pz_at G i e H1) : pz_R G (pz_up h i e) H1 := by
  refine ⟨z.trans r.1, fun j hj => ?_⟩
  show pz_at G j (if j = i then e else h.1 j) H1
  by_cases q : j = i
  · rw [if_pos q, q]; exact he
  · rw [if_neg q]
    exact va_at.kept (r.2 j hj) (o _ (by show G.2.1.1 + j ≠ G.2.1.1 + i; omega))
theorem pz_R.nw {G : pz_D} {h : pz_H} {H H1 : Heap} {e : pz_E} {n : Nat} (r : pz_R G h H) (z : H1.size = H.size + 1) (o : ∀ q, q < H.size → H1[q]? = H[q]?) (he : va_at G.1 px_cl (H.size, pz_e G e) H1) : pz_R G (pz_nw h e n) H1 := by
  refine ⟨by rw [z, r.1]; show _ = _ + (h.2.1 + 1); omega, fun j hj => ?_⟩
  show pz_at G j (if j = h.2.1 then e else h.1 j) H1
  by_cases q : j = h.2.1
  · rw [if_pos q, q]
    have := he
    rw [r.1] at this
    exact this
  · rw [if_neg q]
    have hj' : j < h.2.1 + 1 := hj
    exact va_at.kept (r.2 j (by omega)) (o _ (by show G.2.1.1 + j < H.size; rw [r.1]; omega))
theorem pz_obj_spec {h : pz_H} {i c : Nat} {fs : List Value} (q : pz_obj h i c = some fs) : i < h.2.1 ∧ h.1 i = .inr (.inr (c, fs)) := by
  unfold pz_obj at q
  split at q
  · rename_i c' fs' e
    split at q
    · rename_i g
      cases q
      exact ⟨g.2, by rw [e, g.1]⟩
    · cases q
  · cases q
theorem pz_arr_spec {h : pz_H} {i : Nat} {f : Nat × (Nat → Int32)} (q : pz_arr h i = some f) : i < h.2.1 ∧ h.1 i = .inl f := by
  unfold pz_arr at q
  split at q
  · rename_i f' e
    split at q
    · rename_i g
      cases q
      exact ⟨g, e⟩
    · cases q
  · cases q
theorem pz_arq_spec {h : pz_H} {i : Nat} {f : Nat × (Nat → Option Nat)} (q : pz_arq h i = some f) : i < h.2.1 ∧ h.1 i = .inr (.inl f) := by
  unfold pz_arq at q
  split at q
  · rename_i f' e
    split at q
    · rename_i g
      cases q
      exact ⟨g, e⟩
    · cases q
  · cases q
theorem pz_one {G : pz_D} {h : pz_H} {H : Heap} {i : Nat} {e : pz_E} (r : pz_R G h H) (hi : i < h.2.1) (he : h.1 i = e) : va_P G.1 px_cl [(G.2.1.1 + i, pz_e G e)] H := by
  intro k q hk
  have hz : k < 1 := (List.getElem?_eq_some_iff.mp hk).1
  rw [show k = 0 by omega] at hk
  cases hk
  rw [← he]
  exact r.2 i hi
theorem pz_two {G : pz_D} {h : pz_H} {H : Heap} {i j : Nat} {e e' : pz_E} (r : pz_R G h H) (hi : i < h.2.1) (he : h.1 i = e) (hj : j < h.2.1) (he' : h.1 j = e') : va_P G.1 px_cl [(G.2.1.1 + i, pz_e G e), (G.2.1.1 + j, pz_e G e')] H := by
  intro k q hk
  have hz : k < 2 := (List.getElem?_eq_some_iff.mp hk).1
  rcases (show k = 0 ∨ k = 1 by omega) with rfl | rfl
  · cases hk
    rw [← he]
    exact r.2 i hi
  · cases hk
    rw [← he']
    exact r.2 j hj
/-! ## locals -/
def pz_Lr (G : pz_D) (L : pz_L) (ls : Array Slot) (n : Nat) : Prop := L.length = n ∧ ls.size = n ∧ lv_wf ls ∧ ∀ (i : Nat) (v : Value), pz_get L i = some v → ls[i]? = some (.val (pz_v G.2.1.1 G.2.1.2 v))
def pz_as (G : pz_D) (L : pz_L) : List (Nat × Value) := (List.range L.length).filterMap fun i => (pz_get L i).map fun v => (i, pz_v G.2.1.1 G.2.1.2 v)
theorem pz_get_lt {L : pz_L} {i : Nat} {v : Value} (h : pz_get L i = some v) : i < L.length := by
  unfold pz_get at h
  split at h
  · rename_i e
    exact (List.getElem?_eq_some_iff.mp e).1
  · cases h
theorem pz_as_mem {G : pz_D} {L : pz_L} {i : Nat} {v : Value} (h : pz_get L i = some v) : (i, pz_v G.2.1.1 G.2.1.2 v) ∈ pz_as G L :=
  List.mem_filterMap.mpr ⟨i, List.mem_range.mpr (pz_get_lt h), by rw [h]; rfl⟩
theorem pz_Lr.has {G : pz_D} {L : pz_L} {ls : Array Slot} {n : Nat} (h : pz_Lr G L ls n) : lv_has ls n (pz_as G L) := by
  refine ⟨h.2.1, h.2.2.1, fun q hq => ?_⟩
  obtain ⟨i, -, hi⟩ := List.mem_filterMap.mp hq
  cases hv : pz_get L i with
  | none => rw [hv] at hi; cases hi
  | some v =>
    rw [hv] at hi
    cases hi
    exact h.2.2.2 i v hv
theorem pz_get_set {L : pz_L} {i j : Nat} {x : Option Value} (hi : i < L.length) : pz_get (L.set i x) j = if j = i then x else pz_get L j := by
  unfold pz_get
  rw [List.getElem?_set]
  by_cases h : j = i
  · subst h
    rw [if_pos rfl, if_pos hi, if_pos rfl]
    cases x <;> rfl
  · rw [if_neg (Ne.symm h), if_neg h]
theorem pz_s1_spec {L L' : pz_L} {i : Nat} {v : Value} (h : pz_s1 L i v = some L') : i < L.length ∧ pz_c2 L i = false ∧ L' = L.set i (some v) := by
  unfold pz_s1 at h
  split at h
  · rename_i e
    simp only [Bool.and_eq_true, Bool.not_eq_true'] at e
    cases h
    exact ⟨Nat.le_of_ble_eq_true e.1, e.2, rfl⟩
  · cases h
theorem pz_s2_spec {L L' : pz_L} {i : Nat} {v : Value} (h : pz_s2 L i v = some L') : i + 1 < L.length ∧ pz_c2 L i = false ∧ L' = (L.set i (some v)).set (i + 1) none := by
  unfold pz_s2 at h
  split at h
  · rename_i e
    simp only [Bool.and_eq_true, Bool.not_eq_true'] at e
    cases h
    exact ⟨Nat.le_of_ble_eq_true e.1, e.2, rfl⟩
  · cases h
theorem pz_c2_no {L : pz_L} {i j : Nat} {w : Value} (h : pz_c2 L i = false) (hj : pz_get L j = some w) (e : j + 1 = i) : w.category ≠ 2 := by
  subst e
  have h' : (match pz_get L j with
    | some v => v.category == 2
    | none => false) = false := h
  rw [hj] at h'
  simpa using h'
theorem pz_st1 {G : pz_D} {L L' : pz_L} {ls ls' : Array Slot} {n i : Nat} {v : Value} (h : pz_Lr G L ls n) (hs : pz_s1 L i v = some L') (hl : lv_has ls' n ((i, pz_v G.2.1.1 G.2.1.2 v) :: (pz_as G L).filter (fun q => !(q.1 == i) && !(q.1 + 1 == i && q.2.category == 2)))) : pz_Lr G L' ls' n := by
  obtain ⟨h1, h2, rfl⟩ := pz_s1_spec hs
  refine ⟨by rw [List.length_set]; exact h.1, hl.1, hl.2.1, fun j w hj => ?_⟩
  rw [pz_get_set h1] at hj
  by_cases q : j = i
  · rw [if_pos q] at hj
    cases hj
    rw [q]
    exact hl.2.2 _ List.mem_cons_self
  · rw [if_neg q] at hj
    refine hl.2.2 (j, pz_v G.2.1.1 G.2.1.2 w) (List.mem_cons_of_mem _ (List.mem_filter.mpr ⟨pz_as_mem hj, ?_⟩))
    simp only [Bool.and_eq_true, Bool.not_eq_true', beq_eq_false_iff_ne, ne_eq, Bool.and_eq_false_iff]
    refine ⟨q, ?_⟩
    by_cases z : j + 1 = i
    · right
      rw [pz_vc]
      exact pz_c2_no h2 hj z
    · exact Or.inl z
theorem pz_st2 {G : pz_D} {L L' : pz_L} {ls ls' : Array Slot} {n i : Nat} {v : Value} (h : pz_Lr G L ls n) (hs : pz_s2 L i v = some L') (hl : lv_has ls' n ((i, pz_v G.2.1.1 G.2.1.2 v) :: (pz_as G L).filter (fun q => !(q.1 == i) && (!(q.1 == i + 1) && !(q.1 + 1 == i && q.2.category == 2))))) : pz_Lr G L' ls' n := by
  obtain ⟨h1, h2, rfl⟩ := pz_s2_spec hs
  refine ⟨by rw [List.length_set, List.length_set]; exact h.1, hl.1, hl.2.1, fun j w hj => ?_⟩
  rw [pz_get_set (by rw [List.length_set]; exact h1), pz_get_set (by omega)] at hj
  by_cases q1 : j = i + 1
  · rw [if_pos q1] at hj
    cases hj
  · rw [if_neg q1] at hj
    by_cases q : j = i
    · rw [if_pos q] at hj
      cases hj
      rw [q]
      exact hl.2.2 _ List.mem_cons_self
    · rw [if_neg q] at hj
      refine hl.2.2 (j, pz_v G.2.1.1 G.2.1.2 w) (List.mem_cons_of_mem _ (List.mem_filter.mpr ⟨pz_as_mem hj, ?_⟩))
      simp only [Bool.and_eq_true, Bool.not_eq_true', beq_eq_false_iff_ne, ne_eq, Bool.and_eq_false_iff]
      refine ⟨q, q1, ?_⟩
      by_cases z : j + 1 = i
      · right
        rw [pz_vc]
        exact pz_c2_no h2 hj z
      · exact Or.inl z
/-- a method's first locals -/
theorem pz_in_get (G : pz_D) (vs : List Value) : ∀ (pre : pz_L) (tl : pz_L) (i : Nat) (v : Value), (∀ x ∈ tl, x = none) → pz_get (pre ++ (pz_sl vs ++ tl)) i = some v → pre.length ≤ i → (i, pz_v G.2.1.1 G.2.1.2 v) ∈ lv_args pre.length (vs.map (pz_v G.2.1.1 G.2.1.2)) := by
  induction vs with
  | nil =>
    intro pre tl i v ht h hi
    exfalso
    unfold pz_get at h
    rw [List.getElem?_append_right hi] at h
    simp only [pz_sl, List.nil_append] at h
    split at h
    · rename_i e
      have := ht _ (List.mem_of_getElem? e)
      cases this
    · cases h
  | cons w t ih =>
    intro pre tl i v ht h hi
    simp only [List.map_cons, lv_args, pz_vc]
    by_cases hw : w.category = 2
    · rw [if_pos hw]
      simp only [pz_sl, hw, if_true] at h
      by_cases h0 : i = pre.length
      · subst h0
        unfold pz_get at h
        simp at h
        rw [h]
        exact List.mem_cons_self
      · by_cases h1 : i = pre.length + 1
        · exfalso
          subst h1
          unfold pz_get at h
          rw [List.getElem?_append_right (by omega)] at h
          simp at h
        · have h2 := ih (pre ++ [some w, none]) tl i v ht (by rw [← h]; simp) (by simp; omega)
          simp only [List.length_append, List.length_cons, List.length_nil] at h2
          exact List.mem_cons_of_mem _ h2
    · rw [if_neg hw]
      simp only [pz_sl, hw, if_false] at h
      by_cases h0 : i = pre.length
      · subst h0
        unfold pz_get at h
        simp at h
        rw [h]
        exact List.mem_cons_self
      · have h2 := ih (pre ++ [some w]) tl i v ht (by rw [← h]; simp) (by simp; omega)
        simp only [List.length_append, List.length_cons, List.length_nil] at h2
        exact List.mem_cons_of_mem _ h2
theorem pz_sl_len (G : pz_D) (vs : List Value) : (lg_sl (vs.map (pz_v G.2.1.1 G.2.1.2))).length = (pz_sl vs).length := by
  induction vs with
  | nil => rfl
  | cons w t ih =>
    by_cases hw : w.category = 2
    · have e : lg_sl ((w :: t).map (pz_v G.2.1.1 G.2.1.2)) = [.val (pz_v G.2.1.1 G.2.1.2 w), .second] ++ lg_sl (t.map (pz_v G.2.1.1 G.2.1.2)) := by simp [lg_sl, pz_vc, hw]
      rw [e, List.length_append, ih]
      simp [pz_sl, hw]; omega
    · have e : lg_sl ((w :: t).map (pz_v G.2.1.1 G.2.1.2)) = [.val (pz_v G.2.1.1 G.2.1.2 w)] ++ lg_sl (t.map (pz_v G.2.1.1 G.2.1.2)) := by simp [lg_sl, pz_vc, hw]
      rw [e, List.length_append, ih]
      simp [pz_sl, hw]; omega
theorem pz_entry (G : pz_D) (vs : List Value) {n : Nat} (h : (pz_sl vs).length ≤ n) : pz_Lr G (pz_in n vs) ((lg_sl (vs.map (pz_v G.2.1.1 G.2.1.2)) ++ List.replicate (n - (lg_sl (vs.map (pz_v G.2.1.1 G.2.1.2))).length) Slot.unset).toArray) n := by
  have hl := lv_entry (vs.map (pz_v G.2.1.1 G.2.1.2)) (n := n) (by rw [pz_sl_len]; exact h)
  refine ⟨by simp [pz_in]; omega, hl.1, hl.2.1, fun i v hi => ?_⟩
  refine hl.2.2 (i, pz_v G.2.1.1 G.2.1.2 v) ?_
  exact pz_in_get G vs [] (List.replicate (n - (pz_sl vs).length) none) i v (fun x hx => (List.mem_replicate.mp hx).2) hi (Nat.zero_le _)
end
section
/-! ## one instruction of ours is one of the machine's -/
def pz_U (G : pz_D) (U : State) : Prop := va_K G.1 px_cl [(G.2.2.1, .int), (G.2.2.2, .object RX3)] U ∧ (∀ w ∈ px_nest, va_Nw w U) ∧ va_Nw (.castable "[I" "java/lang/Cloneable") U ∧ va_AO RX3 U
def pz_B (G : pz_D) (S : (Nat → Int32) × Nat) (U : State) : Prop := G.2.1.2 < G.2.1.1 ∧ G.2.1.1 ≤ U.heap.size ∧ va_X G.2.1.2 S.2 S.1 U U.heap
def pz_Cx (p : Program) (R : Room) (s : State) (m : MethodId) (args : Array Value) (meth : Method) (c : Code) (G : pz_D) (S : (Nat → Int32) × Nat) (mi : Nat) : Prop :=
  (p.tables.exec = Jvm.exec ∧ c.code = px_c mi ∧ c.maxLocals = px_ml mi ∧ s.vm.findClass (px_R (px_o mi)) = some m.cls) ∧ (∀ w ∈ px_gt, w.before args s = true) ∧ pz_U G s ∧ pz_B G S s ∧ (meth.locks = false ∧ ((px_y mi).name = "<init>" → meth.name = "<init>") ∧ meth.sig.returnType = px_rt mi) ∧ (px_fr mi ≤ R.frames ∧ px_lo mi ≤ R.locals)
def pz_Z (G : pz_D) (s : State) (mi : Nat) (h : pz_H) (H : Heap) (L : pz_L) (ls : Array Slot) (locs : List Loc) : Prop :=
  pz_R G h H ∧ (∀ q : Nat, q < G.2.1.1 → H[q]? = s.heap[q]?) ∧ pz_Lr G L ls (px_ml mi) ∧ ∀ q ∈ locs, G.2.1.1 ≤ q.base
def pz_Go (p : Program) (l : Launch) (e : Env) (R : Room) (s : State) (m : MethodId) (args : Array Value) (below : List Frame) (meth : Method) (c : Code) (Q : State → Prop) (G : pz_D) (mi n0 m0 : Nat) (q : Nat × (pz_L × (List Value × pz_H))) : Prop :=
  ∀ (H : Heap) (ls : Array Slot) (locs : List Loc) (cells slots : Nat), pz_Z G s mi q.2.2.2 H q.2.1 ls locs → n0 + cells = q.2.2.2.2.1 → m0 + slots = q.2.2.2.2.2 → W p l e R s m args below meth c H locs cells slots Q (F0 m q.1 ls (q.2.2.1.map (pz_v G.2.1.1 G.2.1.2)))
section PZ
variable {p : Program} {l : Launch} {e : Env} {R : Room} {s : State} {m : MethodId} {args : Array Value} {below : List Frame} {meth : Method} {c : Code} {Q : State → Prop} {G : pz_D} {S : (Nat → Int32) × Nat} {mi n0 m0 : Nat} {pc : Nat} {L : pz_L} {st : List Value} {h : pz_H} {q : Nat × (pz_L × (List Value × pz_H))}
theorem pz_gos {pc' : Nat} {L' : pz_L} {st' : List Value} {h' : pz_H} (hs : pz_go pc' L' st' h' = some (.inl q)) : q = (pc', L', st', h') := by
  unfold pz_go at hs
  cases hs
  rfl

theorem pz_w_ild0 (C : pz_Cx p R s m args meth c G S mi) {k : Fin 4} (hdg : decode (px_c mi) pc = .ok (.iload_n k, 1)) (hs : pz_ild (k : Nat) (pc + 1) L st h = some (.inl q)) (kk : pz_Go p l e R s m args below meth c Q G mi n0 m0 q) : pz_Go p l e R s m args below meth c Q G mi n0 m0 (pc, L, st, h) := by
  obtain ⟨⟨hx, hb, hml, hown⟩, hts, ⟨hK, hN, hCa, hAO⟩, ⟨hbs, hbz, hX⟩, ⟨hlk, hnm, hrt⟩, hfr, hlo⟩ := C
  unfold pz_ild at hs
  split at hs
  · rename_i x hg
    obtain rfl := pz_gos hs
    intro H ls locs cells slots Z hc hs2
    exact lv_iload_n hx hb hdg rfl (Z.2.2.1.2.2.2 _ _ hg) (kk H ls locs cells slots Z hc hs2)
  · cases hs
theorem pz_w_ild1 (C : pz_Cx p R s m args meth c G S mi) {i : Nat} (hdg : decode (px_c mi) pc = .ok (.iload i, 2)) (hs : pz_ild i (pc + 2) L st h = some (.inl q)) (kk : pz_Go p l e R s m args below meth c Q G mi n0 m0 q) : pz_Go p l e R s m args below meth c Q G mi n0 m0 (pc, L, st, h) := by
  obtain ⟨⟨hx, hb, hml, hown⟩, hts, ⟨hK, hN, hCa, hAO⟩, ⟨hbs, hbz, hX⟩, ⟨hlk, hnm, hrt⟩, hfr, hlo⟩ := C
  unfold pz_ild at hs
  split at hs
  · rename_i x hg
    obtain rfl := pz_gos hs
    intro H ls locs cells slots Z hc hs2
    exact lv_iload hx hb hdg (Z.2.2.1.2.2.2 _ _ hg) (kk H ls locs cells slots Z hc hs2)
  · cases hs
theorem pz_w_lld0 (C : pz_Cx p R s m args meth c G S mi) {k : Fin 4} (hdg : decode (px_c mi) pc = .ok (.lload_n k, 1)) (hs : pz_lld (k : Nat) (pc + 1) L st h = some (.inl q)) (kk : pz_Go p l e R s m args below meth c Q G mi n0 m0 q) : pz_Go p l e R s m args below meth c Q G mi n0 m0 (pc, L, st, h) := by
  obtain ⟨⟨hx, hb, hml, hown⟩, hts, ⟨hK, hN, hCa, hAO⟩, ⟨hbs, hbz, hX⟩, ⟨hlk, hnm, hrt⟩, hfr, hlo⟩ := C
  unfold pz_lld at hs
  split at hs
  · rename_i x hg
    obtain rfl := pz_gos hs
    intro H ls locs cells slots Z hc hs2
    exact lv_lload_n hx hb hdg rfl (Z.2.2.1.2.2.2 _ _ hg) (kk H ls locs cells slots Z hc hs2)
  · cases hs
theorem pz_w_lld1 (C : pz_Cx p R s m args meth c G S mi) {i : Nat} (hdg : decode (px_c mi) pc = .ok (.lload i, 2)) (hs : pz_lld i (pc + 2) L st h = some (.inl q)) (kk : pz_Go p l e R s m args below meth c Q G mi n0 m0 q) : pz_Go p l e R s m args below meth c Q G mi n0 m0 (pc, L, st, h) := by
  obtain ⟨⟨hx, hb, hml, hown⟩, hts, ⟨hK, hN, hCa, hAO⟩, ⟨hbs, hbz, hX⟩, ⟨hlk, hnm, hrt⟩, hfr, hlo⟩ := C
  unfold pz_lld at hs
  split at hs
  · rename_i x hg
    obtain rfl := pz_gos hs
    intro H ls locs cells slots Z hc hs2
    exact lv_lload hx hb hdg (Z.2.2.1.2.2.2 _ _ hg) (kk H ls locs cells slots Z hc hs2)
  · cases hs
theorem pz_w_ald0 (C : pz_Cx p R s m args meth c G S mi) {k : Fin 4} (hdg : decode (px_c mi) pc = .ok (.aload_n k, 1)) (hs : pz_ald (k : Nat) (pc + 1) L st h = some (.inl q)) (kk : pz_Go p l e R s m args below meth c Q G mi n0 m0 q) : pz_Go p l e R s m args below meth c Q G mi n0 m0 (pc, L, st, h) := by
  obtain ⟨⟨hx, hb, hml, hown⟩, hts, ⟨hK, hN, hCa, hAO⟩, ⟨hbs, hbz, hX⟩, ⟨hlk, hnm, hrt⟩, hfr, hlo⟩ := C
  unfold pz_ald at hs
  split at hs
  · rename_i x hg
    obtain rfl := pz_gos hs
    intro H ls locs cells slots Z hc hs2
    exact lv_aload_n hx hb hdg rfl (Z.2.2.1.2.2.2 _ _ hg) (kk H ls locs cells slots Z hc hs2)
  · rename_i hg
    obtain rfl := pz_gos hs
    intro H ls locs cells slots Z hc hs2
    exact lv_aload_nN hx hb hdg rfl (Z.2.2.1.2.2.2 _ _ hg) (kk H ls locs cells slots Z hc hs2)
  · rename_i x hg
    obtain rfl := pz_gos hs
    intro H ls locs cells slots Z hc hs2
    exact lv_aload_n hx hb hdg rfl (Z.2.2.1.2.2.2 _ _ hg) (kk H ls locs cells slots Z hc hs2)
  · cases hs
theorem pz_w_ald1 (C : pz_Cx p R s m args meth c G S mi) {i : Nat} (hdg : decode (px_c mi) pc = .ok (.aload i, 2)) (hs : pz_ald i (pc + 2) L st h = some (.inl q)) (kk : pz_Go p l e R s m args below meth c Q G mi n0 m0 q) : pz_Go p l e R s m args below meth c Q G mi n0 m0 (pc, L, st, h) := by
  obtain ⟨⟨hx, hb, hml, hown⟩, hts, ⟨hK, hN, hCa, hAO⟩, ⟨hbs, hbz, hX⟩, ⟨hlk, hnm, hrt⟩, hfr, hlo⟩ := C
  unfold pz_ald at hs
  split at hs
  · rename_i x hg
    obtain rfl := pz_gos hs
    intro H ls locs cells slots Z hc hs2
    exact lv_aload hx hb hdg (Z.2.2.1.2.2.2 _ _ hg) (kk H ls locs cells slots Z hc hs2)
  · rename_i hg
    obtain rfl := pz_gos hs
    intro H ls locs cells slots Z hc hs2
    exact lv_aloadN hx hb hdg (Z.2.2.1.2.2.2 _ _ hg) (kk H ls locs cells slots Z hc hs2)
  · rename_i x hg
    obtain rfl := pz_gos hs
    intro H ls locs cells slots Z hc hs2
    exact lv_aload hx hb hdg (Z.2.2.1.2.2.2 _ _ hg) (kk H ls locs cells slots Z hc hs2)
  · cases hs
theorem pz_w_ist0 (C : pz_Cx p R s m args meth c G S mi) {k : Fin 4} (hdg : decode (px_c mi) pc = .ok (.istore_n k, 1)) (hs : pz_ist (k : Nat) (pc + 1) L st h = some (.inl q)) (kk : pz_Go p l e R s m args below meth c Q G mi n0 m0 q) : pz_Go p l e R s m args below meth c Q G mi n0 m0 (pc, L, st, h) := by
  obtain ⟨⟨hx, hb, hml, hown⟩, hts, ⟨hK, hN, hCa, hAO⟩, ⟨hbs, hbz, hX⟩, ⟨hlk, hnm, hrt⟩, hfr, hlo⟩ := C
  unfold pz_ist at hs
  split at hs
  · rename_i x r
    obtain ⟨L', h1, h2⟩ := Option.bind_eq_some_iff.mp hs
    obtain rfl := pz_gos h2
    intro H ls locs cells slots Z hc hs2
    refine lv_istore_n hx hb hdg rfl Z.2.2.1.has (by have := (pz_s1_spec h1).1; rw [Z.2.2.1.1] at this; exact this) rfl (fun ls' hl => kk H ls' locs cells slots ⟨Z.1, Z.2.1, pz_st1 Z.2.2.1 h1 hl, Z.2.2.2⟩ hc hs2)
  · cases hs
theorem pz_w_ist1 (C : pz_Cx p R s m args meth c G S mi) {i : Nat} (hdg : decode (px_c mi) pc = .ok (.istore i, 2)) (hs : pz_ist i (pc + 2) L st h = some (.inl q)) (kk : pz_Go p l e R s m args below meth c Q G mi n0 m0 q) : pz_Go p l e R s m args below meth c Q G mi n0 m0 (pc, L, st, h) := by
  obtain ⟨⟨hx, hb, hml, hown⟩, hts, ⟨hK, hN, hCa, hAO⟩, ⟨hbs, hbz, hX⟩, ⟨hlk, hnm, hrt⟩, hfr, hlo⟩ := C
  unfold pz_ist at hs
  split at hs
  · rename_i x r
    obtain ⟨L', h1, h2⟩ := Option.bind_eq_some_iff.mp hs
    obtain rfl := pz_gos h2
    intro H ls locs cells slots Z hc hs2
    refine lv_istore hx hb hdg Z.2.2.1.has (by have := (pz_s1_spec h1).1; rw [Z.2.2.1.1] at this; exact this) rfl (fun ls' hl => kk H ls' locs cells slots ⟨Z.1, Z.2.1, pz_st1 Z.2.2.1 h1 hl, Z.2.2.2⟩ hc hs2)
  · cases hs
theorem pz_w_lst0 (C : pz_Cx p R s m args meth c G S mi) {k : Fin 4} (hdg : decode (px_c mi) pc = .ok (.lstore_n k, 1)) (hs : pz_lst (k : Nat) (pc + 1) L st h = some (.inl q)) (kk : pz_Go p l e R s m args below meth c Q G mi n0 m0 q) : pz_Go p l e R s m args below meth c Q G mi n0 m0 (pc, L, st, h) := by
  obtain ⟨⟨hx, hb, hml, hown⟩, hts, ⟨hK, hN, hCa, hAO⟩, ⟨hbs, hbz, hX⟩, ⟨hlk, hnm, hrt⟩, hfr, hlo⟩ := C
  unfold pz_lst at hs
  split at hs
  · rename_i x r
    obtain ⟨L', h1, h2⟩ := Option.bind_eq_some_iff.mp hs
    obtain rfl := pz_gos h2
    intro H ls locs cells slots Z hc hs2
    refine lv_lstore_n hx hb hdg rfl Z.2.2.1.has (by have := (pz_s2_spec h1).1; rw [Z.2.2.1.1] at this; exact this) rfl (fun ls' hl => kk H ls' locs cells slots ⟨Z.1, Z.2.1, pz_st2 Z.2.2.1 h1 hl, Z.2.2.2⟩ hc hs2)
  · cases hs
theorem pz_w_lst1 (C : pz_Cx p R s m args meth c G S mi) {i : Nat} (hdg : decode (px_c mi) pc = .ok (.lstore i, 2)) (hs : pz_lst i (pc + 2) L st h = some (.inl q)) (kk : pz_Go p l e R s m args below meth c Q G mi n0 m0 q) : pz_Go p l e R s m args below meth c Q G mi n0 m0 (pc, L, st, h) := by
  obtain ⟨⟨hx, hb, hml, hown⟩, hts, ⟨hK, hN, hCa, hAO⟩, ⟨hbs, hbz, hX⟩, ⟨hlk, hnm, hrt⟩, hfr, hlo⟩ := C
  unfold pz_lst at hs
  split at hs
  · rename_i x r
    obtain ⟨L', h1, h2⟩ := Option.bind_eq_some_iff.mp hs
    obtain rfl := pz_gos h2
    intro H ls locs cells slots Z hc hs2
    refine lv_lstore hx hb hdg Z.2.2.1.has (by have := (pz_s2_spec h1).1; rw [Z.2.2.1.1] at this; exact this) rfl (fun ls' hl => kk H ls' locs cells slots ⟨Z.1, Z.2.1, pz_st2 Z.2.2.1 h1 hl, Z.2.2.2⟩ hc hs2)
  · cases hs
theorem pz_w_ast0 (C : pz_Cx p R s m args meth c G S mi) {k : Fin 4} (hdg : decode (px_c mi) pc = .ok (.astore_n k, 1)) (hs : pz_ast (k : Nat) (pc + 1) L st h = some (.inl q)) (kk : pz_Go p l e R s m args below meth c Q G mi n0 m0 q) : pz_Go p l e R s m args below meth c Q G mi n0 m0 (pc, L, st, h) := by
  obtain ⟨⟨hx, hb, hml, hown⟩, hts, ⟨hK, hN, hCa, hAO⟩, ⟨hbs, hbz, hX⟩, ⟨hlk, hnm, hrt⟩, hfr, hlo⟩ := C
  unfold pz_ast at hs
  split at hs
  · rename_i x r
    obtain ⟨L', h1, h2⟩ := Option.bind_eq_some_iff.mp hs
    obtain rfl := pz_gos h2
    intro H ls locs cells slots Z hc hs2
    refine lv_astore_n hx hb hdg rfl Z.2.2.1.has (by have := (pz_s1_spec h1).1; rw [Z.2.2.1.1] at this; exact this) rfl (fun ls' hl => kk H ls' locs cells slots ⟨Z.1, Z.2.1, pz_st1 Z.2.2.1 h1 hl, Z.2.2.2⟩ hc hs2)
  · rename_i r
    obtain ⟨L', h1, h2⟩ := Option.bind_eq_some_iff.mp hs
    obtain rfl := pz_gos h2
    intro H ls locs cells slots Z hc hs2
    refine lv_astore_nN hx hb hdg rfl Z.2.2.1.has (by have := (pz_s1_spec h1).1; rw [Z.2.2.1.1] at this; exact this) rfl (fun ls' hl => kk H ls' locs cells slots ⟨Z.1, Z.2.1, pz_st1 Z.2.2.1 h1 hl, Z.2.2.2⟩ hc hs2)
  · cases hs
theorem pz_w_ast1 (C : pz_Cx p R s m args meth c G S mi) {i : Nat} (hdg : decode (px_c mi) pc = .ok (.astore i, 2)) (hs : pz_ast i (pc + 2) L st h = some (.inl q)) (kk : pz_Go p l e R s m args below meth c Q G mi n0 m0 q) : pz_Go p l e R s m args below meth c Q G mi n0 m0 (pc, L, st, h) := by
  obtain ⟨⟨hx, hb, hml, hown⟩, hts, ⟨hK, hN, hCa, hAO⟩, ⟨hbs, hbz, hX⟩, ⟨hlk, hnm, hrt⟩, hfr, hlo⟩ := C
  unfold pz_ast at hs
  split at hs
  · rename_i x r
    obtain ⟨L', h1, h2⟩ := Option.bind_eq_some_iff.mp hs
    obtain rfl := pz_gos h2
    intro H ls locs cells slots Z hc hs2
    refine lv_astore hx hb hdg Z.2.2.1.has (by have := (pz_s1_spec h1).1; rw [Z.2.2.1.1] at this; exact this) rfl (fun ls' hl => kk H ls' locs cells slots ⟨Z.1, Z.2.1, pz_st1 Z.2.2.1 h1 hl, Z.2.2.2⟩ hc hs2)
  · rename_i r
    obtain ⟨L', h1, h2⟩ := Option.bind_eq_some_iff.mp hs
    obtain rfl := pz_gos h2
    intro H ls locs cells slots Z hc hs2
    refine lv_astoreN hx hb hdg Z.2.2.1.has (by have := (pz_s1_spec h1).1; rw [Z.2.2.1.1] at this; exact this) rfl (fun ls' hl => kk H ls' locs cells slots ⟨Z.1, Z.2.1, pz_st1 Z.2.2.1 h1 hl, Z.2.2.2⟩ hc hs2)
  · cases hs
theorem pz_w_iinc (C : pz_Cx p R s m args meth c G S mi) {i : Nat} {n : Int} {x : Int32} {L1 : pz_L} (hdg : decode (px_c mi) pc = .ok (.iinc i n, 3)) (hg : pz_get L i = some (.int x)) (h1 : pz_s1 L i (.int (x + Int32.ofInt n)) = some L1) (hq : q = (pc + 3, L1, st, h)) (kk : pz_Go p l e R s m args below meth c Q G mi n0 m0 q) : pz_Go p l e R s m args below meth c Q G mi n0 m0 (pc, L, st, h) := by
  obtain ⟨⟨hx, hb, hml, hown⟩, hts, ⟨hK, hN, hCa, hAO⟩, ⟨hbs, hbz, hX⟩, ⟨hlk, hnm, hrt⟩, hfr, hlo⟩ := C
  subst hq
  intro H ls locs cells slots Z hc hs2
  obtain ⟨k, hk⟩ := List.getElem?_of_mem (pz_as_mem (G := G) hg)
  exact lv_iinc hx hb hdg Z.2.2.1.has hk rfl (by have := (pz_s1_spec h1).1; rw [Z.2.2.1.1] at this; exact this) rfl (fun ls' hl => kk H ls' locs cells slots ⟨Z.1, Z.2.1, pz_st1 Z.2.2.1 h1 hl, Z.2.2.2⟩ hc hs2)
theorem pz_w_iadd (C : pz_Cx p R s m args meth c G S mi) (hdg : decode (px_c mi) pc = .ok (.iadd, 1)) (hs : pz_i2 (fun x y => some (x + y)) pc L st h = some (.inl q)) (kk : pz_Go p l e R s m args below meth c Q G mi n0 m0 q) : pz_Go p l e R s m args below meth c Q G mi n0 m0 (pc, L, st, h) := by
  obtain ⟨⟨hx, hb, hml, hown⟩, hts, ⟨hK, hN, hCa, hAO⟩, ⟨hbs, hbz, hX⟩, ⟨hlk, hnm, hrt⟩, hfr, hlo⟩ := C
  unfold pz_i2 at hs
  split at hs
  · rename_i y x r
    obtain rfl := pz_gos hs
    intro H ls locs cells slots Z hc hs2
    exact lv_iadd hx hb hdg (kk H ls locs cells slots Z hc hs2)
  · cases hs
theorem pz_w_isub (C : pz_Cx p R s m args meth c G S mi) (hdg : decode (px_c mi) pc = .ok (.isub, 1)) (hs : pz_i2 (fun x y => some (x - y)) pc L st h = some (.inl q)) (kk : pz_Go p l e R s m args below meth c Q G mi n0 m0 q) : pz_Go p l e R s m args below meth c Q G mi n0 m0 (pc, L, st, h) := by
  obtain ⟨⟨hx, hb, hml, hown⟩, hts, ⟨hK, hN, hCa, hAO⟩, ⟨hbs, hbz, hX⟩, ⟨hlk, hnm, hrt⟩, hfr, hlo⟩ := C
  unfold pz_i2 at hs
  split at hs
  · rename_i y x r
    obtain rfl := pz_gos hs
    intro H ls locs cells slots Z hc hs2
    exact lv_isub hx hb hdg (kk H ls locs cells slots Z hc hs2)
  · cases hs
theorem pz_w_imul (C : pz_Cx p R s m args meth c G S mi) (hdg : decode (px_c mi) pc = .ok (.imul, 1)) (hs : pz_i2 (fun x y => some (x * y)) pc L st h = some (.inl q)) (kk : pz_Go p l e R s m args below meth c Q G mi n0 m0 q) : pz_Go p l e R s m args below meth c Q G mi n0 m0 (pc, L, st, h) := by
  obtain ⟨⟨hx, hb, hml, hown⟩, hts, ⟨hK, hN, hCa, hAO⟩, ⟨hbs, hbz, hX⟩, ⟨hlk, hnm, hrt⟩, hfr, hlo⟩ := C
  unfold pz_i2 at hs
  split at hs
  · rename_i y x r
    obtain rfl := pz_gos hs
    intro H ls locs cells slots Z hc hs2
    exact lv_imul hx hb hdg (kk H ls locs cells slots Z hc hs2)
  · cases hs
theorem pz_w_iand (C : pz_Cx p R s m args meth c G S mi) (hdg : decode (px_c mi) pc = .ok (.iand, 1)) (hs : pz_i2 (fun x y => some (x &&& y)) pc L st h = some (.inl q)) (kk : pz_Go p l e R s m args below meth c Q G mi n0 m0 q) : pz_Go p l e R s m args below meth c Q G mi n0 m0 (pc, L, st, h) := by
  obtain ⟨⟨hx, hb, hml, hown⟩, hts, ⟨hK, hN, hCa, hAO⟩, ⟨hbs, hbz, hX⟩, ⟨hlk, hnm, hrt⟩, hfr, hlo⟩ := C
  unfold pz_i2 at hs
  split at hs
  · rename_i y x r
    obtain rfl := pz_gos hs
    intro H ls locs cells slots Z hc hs2
    exact lv_iand hx hb hdg (kk H ls locs cells slots Z hc hs2)
  · cases hs
theorem pz_w_ior (C : pz_Cx p R s m args meth c G S mi) (hdg : decode (px_c mi) pc = .ok (.ior, 1)) (hs : pz_i2 (fun x y => some (x ||| y)) pc L st h = some (.inl q)) (kk : pz_Go p l e R s m args below meth c Q G mi n0 m0 q) : pz_Go p l e R s m args below meth c Q G mi n0 m0 (pc, L, st, h) := by
  obtain ⟨⟨hx, hb, hml, hown⟩, hts, ⟨hK, hN, hCa, hAO⟩, ⟨hbs, hbz, hX⟩, ⟨hlk, hnm, hrt⟩, hfr, hlo⟩ := C
  unfold pz_i2 at hs
  split at hs
  · rename_i y x r
    obtain rfl := pz_gos hs
    intro H ls locs cells slots Z hc hs2
    exact lv_ior hx hb hdg (kk H ls locs cells slots Z hc hs2)
  · cases hs
theorem pz_w_ishl (C : pz_Cx p R s m args meth c G S mi) (hdg : decode (px_c mi) pc = .ok (.ishl, 1)) (hs : pz_i2 (fun x y => some (x <<< (y &&& 31))) pc L st h = some (.inl q)) (kk : pz_Go p l e R s m args below meth c Q G mi n0 m0 q) : pz_Go p l e R s m args below meth c Q G mi n0 m0 (pc, L, st, h) := by
  obtain ⟨⟨hx, hb, hml, hown⟩, hts, ⟨hK, hN, hCa, hAO⟩, ⟨hbs, hbz, hX⟩, ⟨hlk, hnm, hrt⟩, hfr, hlo⟩ := C
  unfold pz_i2 at hs
  split at hs
  · rename_i y x r
    obtain rfl := pz_gos hs
    intro H ls locs cells slots Z hc hs2
    exact lv_ishl hx hb hdg (kk H ls locs cells slots Z hc hs2)
  · cases hs
theorem pz_w_ishr (C : pz_Cx p R s m args meth c G S mi) (hdg : decode (px_c mi) pc = .ok (.ishr, 1)) (hs : pz_i2 (fun x y => some (x >>> (y &&& 31))) pc L st h = some (.inl q)) (kk : pz_Go p l e R s m args below meth c Q G mi n0 m0 q) : pz_Go p l e R s m args below meth c Q G mi n0 m0 (pc, L, st, h) := by
  obtain ⟨⟨hx, hb, hml, hown⟩, hts, ⟨hK, hN, hCa, hAO⟩, ⟨hbs, hbz, hX⟩, ⟨hlk, hnm, hrt⟩, hfr, hlo⟩ := C
  unfold pz_i2 at hs
  split at hs
  · rename_i y x r
    obtain rfl := pz_gos hs
    intro H ls locs cells slots Z hc hs2
    exact lv_ishr hx hb hdg (kk H ls locs cells slots Z hc hs2)
  · cases hs
theorem pz_w_idiv (C : pz_Cx p R s m args meth c G S mi) (hdg : decode (px_c mi) pc = .ok (.idiv, 1)) (hs : pz_i2 (fun x y => if y = 0 then none else some (x / y)) pc L st h = some (.inl q)) (kk : pz_Go p l e R s m args below meth c Q G mi n0 m0 q) : pz_Go p l e R s m args below meth c Q G mi n0 m0 (pc, L, st, h) := by
  obtain ⟨⟨hx, hb, hml, hown⟩, hts, ⟨hK, hN, hCa, hAO⟩, ⟨hbs, hbz, hX⟩, ⟨hlk, hnm, hrt⟩, hfr, hlo⟩ := C
  unfold pz_i2 at hs
  split at hs
  · rename_i y x r
    obtain ⟨v, h1, h2⟩ := Option.bind_eq_some_iff.mp hs
    have h1 : (if y = 0 then none else some (x / y)) = some v := h1
    split at h1
    · cases h1
    · rename_i hne
      cases h1
      obtain rfl := pz_gos h2
      intro H ls locs cells slots Z hc hs2
      exact lv_idiv hx hb hdg hne (kk H ls locs cells slots Z hc hs2)
  · cases hs
theorem pz_w_irem (C : pz_Cx p R s m args meth c G S mi) (hdg : decode (px_c mi) pc = .ok (.irem, 1)) (hs : pz_i2 (fun x y => if y = 0 then none else some (x - x / y * y)) pc L st h = some (.inl q)) (kk : pz_Go p l e R s m args below meth c Q G mi n0 m0 q) : pz_Go p l e R s m args below meth c Q G mi n0 m0 (pc, L, st, h) := by
  obtain ⟨⟨hx, hb, hml, hown⟩, hts, ⟨hK, hN, hCa, hAO⟩, ⟨hbs, hbz, hX⟩, ⟨hlk, hnm, hrt⟩, hfr, hlo⟩ := C
  unfold pz_i2 at hs
  split at hs
  · rename_i y x r
    obtain ⟨v, h1, h2⟩ := Option.bind_eq_some_iff.mp hs
    have h1 : (if y = 0 then none else some (x - x / y * y)) = some v := h1
    split at h1
    · cases h1
    · rename_i hne
      cases h1
      obtain rfl := pz_gos h2
      intro H ls locs cells slots Z hc hs2
      exact lv_irem hx hb hdg hne (kk H ls locs cells slots Z hc hs2)
  · cases hs
theorem pz_w_ldiv (C : pz_Cx p R s m args meth c G S mi) (hdg : decode (px_c mi) pc = .ok (.ldiv, 1)) (hs : pz_l2 (fun x y => if y = 0 then none else some (x / y)) pc L st h = some (.inl q)) (kk : pz_Go p l e R s m args below meth c Q G mi n0 m0 q) : pz_Go p l e R s m args below meth c Q G mi n0 m0 (pc, L, st, h) := by
  obtain ⟨⟨hx, hb, hml, hown⟩, hts, ⟨hK, hN, hCa, hAO⟩, ⟨hbs, hbz, hX⟩, ⟨hlk, hnm, hrt⟩, hfr, hlo⟩ := C
  unfold pz_l2 at hs
  split at hs
  · rename_i y x r
    obtain ⟨v, h1, h2⟩ := Option.bind_eq_some_iff.mp hs
    have h1 : (if y = 0 then none else some (x / y)) = some v := h1
    split at h1
    · cases h1
    · rename_i hne
      cases h1
      obtain rfl := pz_gos h2
      intro H ls locs cells slots Z hc hs2
      exact lv_ldiv hx hb hdg hne (kk H ls locs cells slots Z hc hs2)
  · cases hs
theorem pz_w_lrem (C : pz_Cx p R s m args meth c G S mi) (hdg : decode (px_c mi) pc = .ok (.lrem, 1)) (hs : pz_l2 (fun x y => if y = 0 then none else some (x - x / y * y)) pc L st h = some (.inl q)) (kk : pz_Go p l e R s m args below meth c Q G mi n0 m0 q) : pz_Go p l e R s m args below meth c Q G mi n0 m0 (pc, L, st, h) := by
  obtain ⟨⟨hx, hb, hml, hown⟩, hts, ⟨hK, hN, hCa, hAO⟩, ⟨hbs, hbz, hX⟩, ⟨hlk, hnm, hrt⟩, hfr, hlo⟩ := C
  unfold pz_l2 at hs
  split at hs
  · rename_i y x r
    obtain ⟨v, h1, h2⟩ := Option.bind_eq_some_iff.mp hs
    have h1 : (if y = 0 then none else some (x - x / y * y)) = some v := h1
    split at h1
    · cases h1
    · rename_i hne
      cases h1
      obtain rfl := pz_gos h2
      intro H ls locs cells slots Z hc hs2
      exact lv_lrem hx hb hdg hne (kk H ls locs cells slots Z hc hs2)
  · cases hs
theorem pz_w_ladd (C : pz_Cx p R s m args meth c G S mi) (hdg : decode (px_c mi) pc = .ok (.ladd, 1)) (hs : pz_l2 (fun x y => some (x + y)) pc L st h = some (.inl q)) (kk : pz_Go p l e R s m args below meth c Q G mi n0 m0 q) : pz_Go p l e R s m args below meth c Q G mi n0 m0 (pc, L, st, h) := by
  obtain ⟨⟨hx, hb, hml, hown⟩, hts, ⟨hK, hN, hCa, hAO⟩, ⟨hbs, hbz, hX⟩, ⟨hlk, hnm, hrt⟩, hfr, hlo⟩ := C
  unfold pz_l2 at hs
  split at hs
  · rename_i y x r
    obtain rfl := pz_gos hs
    intro H ls locs cells slots Z hc hs2
    exact lv_ladd hx hb hdg (kk H ls locs cells slots Z hc hs2)
  · cases hs
theorem pz_w_lmul (C : pz_Cx p R s m args meth c G S mi) (hdg : decode (px_c mi) pc = .ok (.lmul, 1)) (hs : pz_l2 (fun x y => some (x * y)) pc L st h = some (.inl q)) (kk : pz_Go p l e R s m args below meth c Q G mi n0 m0 q) : pz_Go p l e R s m args below meth c Q G mi n0 m0 (pc, L, st, h) := by
  obtain ⟨⟨hx, hb, hml, hown⟩, hts, ⟨hK, hN, hCa, hAO⟩, ⟨hbs, hbz, hX⟩, ⟨hlk, hnm, hrt⟩, hfr, hlo⟩ := C
  unfold pz_l2 at hs
  split at hs
  · rename_i y x r
    obtain rfl := pz_gos hs
    intro H ls locs cells slots Z hc hs2
    exact lv_lmul hx hb hdg (kk H ls locs cells slots Z hc hs2)
  · cases hs
theorem pz_w_land (C : pz_Cx p R s m args meth c G S mi) (hdg : decode (px_c mi) pc = .ok (.land, 1)) (hs : pz_l2 (fun x y => some (x &&& y)) pc L st h = some (.inl q)) (kk : pz_Go p l e R s m args below meth c Q G mi n0 m0 q) : pz_Go p l e R s m args below meth c Q G mi n0 m0 (pc, L, st, h) := by
  obtain ⟨⟨hx, hb, hml, hown⟩, hts, ⟨hK, hN, hCa, hAO⟩, ⟨hbs, hbz, hX⟩, ⟨hlk, hnm, hrt⟩, hfr, hlo⟩ := C
  unfold pz_l2 at hs
  split at hs
  · rename_i y x r
    obtain rfl := pz_gos hs
    intro H ls locs cells slots Z hc hs2
    exact lv_land hx hb hdg (kk H ls locs cells slots Z hc hs2)
  · cases hs
theorem pz_tgs {off : Int} {n : Nat} (ht : pz_tg pc off = some n) : (pc : Int) + off = (n : Int) := by
  unfold pz_tg at ht
  split at ht
  · rename_i t e
    cases ht
    exact e
  · cases ht
theorem pz_jps {off : Int} {L' : pz_L} {st' : List Value} {h' : pz_H} (hs : pz_jp pc off L' st' h' = some (.inl q)) : ∃ t : Nat, (pc : Int) + off = (t : Int) ∧ q = (t, L', st', h') := by
  unfold pz_jp at hs
  obtain ⟨t, h1, h2⟩ := Option.bind_eq_some_iff.mp hs
  exact ⟨t, pz_tgs h1, pz_gos h2⟩
theorem pz_w_goto (C : pz_Cx p R s m args meth c G S mi) {off : Int} (hdg : decode (px_c mi) pc = .ok (.goto off, 3)) (hs : pz_jp pc off L st h = some (.inl q)) (kk : pz_Go p l e R s m args below meth c Q G mi n0 m0 q) : pz_Go p l e R s m args below meth c Q G mi n0 m0 (pc, L, st, h) := by
  obtain ⟨⟨hx, hb, hml, hown⟩, hts, ⟨hK, hN, hCa, hAO⟩, ⟨hbs, hbz, hX⟩, ⟨hlk, hnm, hrt⟩, hfr, hlo⟩ := C
  obtain ⟨t, ht, rfl⟩ := pz_jps hs
  intro H ls locs cells slots Z hc hs2
  exact lv_goto hx hb hdg ht (kk H ls locs cells slots Z hc hs2)
theorem pz_w_if_eq (C : pz_Cx p R s m args meth c G S mi) {off : Int} {x : Int32} {r : List Value} (hdg : decode (px_c mi) pc = .ok (.ifCond .eq off, 3)) (hs : pz_br (pz_cc .eq x 0) pc off L r h = some (.inl q)) (kk : pz_Go p l e R s m args below meth c Q G mi n0 m0 q) : pz_Go p l e R s m args below meth c Q G mi n0 m0 (pc, L, .int x :: r, h) := by
  obtain ⟨⟨hx, hb, hml, hown⟩, hts, ⟨hK, hN, hCa, hAO⟩, ⟨hbs, hbz, hX⟩, ⟨hlk, hnm, hrt⟩, hfr, hlo⟩ := C
  intro H ls locs cells slots Z hc hs2
  obtain ⟨t, ht', hs⟩ := Option.bind_eq_some_iff.mp hs
  have ht := pz_tgs ht'
  by_cases hP : x = 0
  · have e1 : pz_cc .eq x 0 = true := by simp [pz_cc, hP]
    rw [e1] at hs
    obtain rfl := pz_gos (show pz_go t L r h = some (.inl q) from hs)
    exact lv_if_eq hx hb hdg ht (fun _ => kk H ls locs cells slots Z hc hs2) (fun z => absurd hP (by simpa using z))
  · have e1 : pz_cc .eq x 0 = false := by simp [pz_cc] at hP ⊢; exact hP
    rw [e1] at hs
    obtain rfl := pz_gos (show pz_go (pc + 3) L r h = some (.inl q) from hs)
    exact lv_if_eq hx hb hdg ht (fun z => absurd z hP) (fun _ => kk H ls locs cells slots Z hc hs2)
theorem pz_w_if_ne (C : pz_Cx p R s m args meth c G S mi) {off : Int} {x : Int32} {r : List Value} (hdg : decode (px_c mi) pc = .ok (.ifCond .ne off, 3)) (hs : pz_br (pz_cc .ne x 0) pc off L r h = some (.inl q)) (kk : pz_Go p l e R s m args below meth c Q G mi n0 m0 q) : pz_Go p l e R s m args below meth c Q G mi n0 m0 (pc, L, .int x :: r, h) := by
  obtain ⟨⟨hx, hb, hml, hown⟩, hts, ⟨hK, hN, hCa, hAO⟩, ⟨hbs, hbz, hX⟩, ⟨hlk, hnm, hrt⟩, hfr, hlo⟩ := C
  intro H ls locs cells slots Z hc hs2
  obtain ⟨t, ht', hs⟩ := Option.bind_eq_some_iff.mp hs
  have ht := pz_tgs ht'
  by_cases hP : ¬ x = 0
  · have e1 : pz_cc .ne x 0 = true := by simp [pz_cc, hP]
    rw [e1] at hs
    obtain rfl := pz_gos (show pz_go t L r h = some (.inl q) from hs)
    exact lv_if_ne hx hb hdg ht (fun _ => kk H ls locs cells slots Z hc hs2) (fun z => absurd hP (by simpa using z))
  · have e1 : pz_cc .ne x 0 = false := by simp [pz_cc] at hP ⊢; exact hP
    rw [e1] at hs
    obtain rfl := pz_gos (show pz_go (pc + 3) L r h = some (.inl q) from hs)
    exact lv_if_ne hx hb hdg ht (fun z => absurd z hP) (fun _ => kk H ls locs cells slots Z hc hs2)
theorem pz_w_if_lt (C : pz_Cx p R s m args meth c G S mi) {off : Int} {x : Int32} {r : List Value} (hdg : decode (px_c mi) pc = .ok (.ifCond .lt off, 3)) (hs : pz_br (pz_cc .lt x 0) pc off L r h = some (.inl q)) (kk : pz_Go p l e R s m args below meth c Q G mi n0 m0 q) : pz_Go p l e R s m args below meth c Q G mi n0 m0 (pc, L, .int x :: r, h) := by
  obtain ⟨⟨hx, hb, hml, hown⟩, hts, ⟨hK, hN, hCa, hAO⟩, ⟨hbs, hbz, hX⟩, ⟨hlk, hnm, hrt⟩, hfr, hlo⟩ := C
  intro H ls locs cells slots Z hc hs2
  obtain ⟨t, ht', hs⟩ := Option.bind_eq_some_iff.mp hs
  have ht := pz_tgs ht'
  by_cases hP : x < 0
  · have e1 : pz_cc .lt x 0 = true := by simp [pz_cc, hP]
    rw [e1] at hs
    obtain rfl := pz_gos (show pz_go t L r h = some (.inl q) from hs)
    exact lv_if_lt hx hb hdg ht (fun _ => kk H ls locs cells slots Z hc hs2) (fun z => absurd hP (by simpa using z))
  · have e1 : pz_cc .lt x 0 = false := by simp [pz_cc] at hP ⊢; exact hP
    rw [e1] at hs
    obtain rfl := pz_gos (show pz_go (pc + 3) L r h = some (.inl q) from hs)
    exact lv_if_lt hx hb hdg ht (fun z => absurd z hP) (fun _ => kk H ls locs cells slots Z hc hs2)
theorem pz_w_if_ge (C : pz_Cx p R s m args meth c G S mi) {off : Int} {x : Int32} {r : List Value} (hdg : decode (px_c mi) pc = .ok (.ifCond .ge off, 3)) (hs : pz_br (pz_cc .ge x 0) pc off L r h = some (.inl q)) (kk : pz_Go p l e R s m args below meth c Q G mi n0 m0 q) : pz_Go p l e R s m args below meth c Q G mi n0 m0 (pc, L, .int x :: r, h) := by
  obtain ⟨⟨hx, hb, hml, hown⟩, hts, ⟨hK, hN, hCa, hAO⟩, ⟨hbs, hbz, hX⟩, ⟨hlk, hnm, hrt⟩, hfr, hlo⟩ := C
  intro H ls locs cells slots Z hc hs2
  obtain ⟨t, ht', hs⟩ := Option.bind_eq_some_iff.mp hs
  have ht := pz_tgs ht'
  by_cases hP : 0 ≤ x
  · have e1 : pz_cc .ge x 0 = true := by simp [pz_cc, hP]
    rw [e1] at hs
    obtain rfl := pz_gos (show pz_go t L r h = some (.inl q) from hs)
    exact lv_if_ge hx hb hdg ht (fun _ => kk H ls locs cells slots Z hc hs2) (fun z => absurd hP (by simpa using z))
  · have e1 : pz_cc .ge x 0 = false := by simp [pz_cc] at hP ⊢; exact hP
    rw [e1] at hs
    obtain rfl := pz_gos (show pz_go (pc + 3) L r h = some (.inl q) from hs)
    exact lv_if_ge hx hb hdg ht (fun z => absurd z hP) (fun _ => kk H ls locs cells slots Z hc hs2)
theorem pz_w_if_gt (C : pz_Cx p R s m args meth c G S mi) {off : Int} {x : Int32} {r : List Value} (hdg : decode (px_c mi) pc = .ok (.ifCond .gt off, 3)) (hs : pz_br (pz_cc .gt x 0) pc off L r h = some (.inl q)) (kk : pz_Go p l e R s m args below meth c Q G mi n0 m0 q) : pz_Go p l e R s m args below meth c Q G mi n0 m0 (pc, L, .int x :: r, h) := by
  obtain ⟨⟨hx, hb, hml, hown⟩, hts, ⟨hK, hN, hCa, hAO⟩, ⟨hbs, hbz, hX⟩, ⟨hlk, hnm, hrt⟩, hfr, hlo⟩ := C
  intro H ls locs cells slots Z hc hs2
  obtain ⟨t, ht', hs⟩ := Option.bind_eq_some_iff.mp hs
  have ht := pz_tgs ht'
  by_cases hP : 0 < x
  · have e1 : pz_cc .gt x 0 = true := by simp [pz_cc, hP]
    rw [e1] at hs
    obtain rfl := pz_gos (show pz_go t L r h = some (.inl q) from hs)
    exact lv_if_gt hx hb hdg ht (fun _ => kk H ls locs cells slots Z hc hs2) (fun z => absurd hP (by simpa using z))
  · have e1 : pz_cc .gt x 0 = false := by simp [pz_cc] at hP ⊢; exact hP
    rw [e1] at hs
    obtain rfl := pz_gos (show pz_go (pc + 3) L r h = some (.inl q) from hs)
    exact lv_if_gt hx hb hdg ht (fun z => absurd z hP) (fun _ => kk H ls locs cells slots Z hc hs2)
theorem pz_w_if_le (C : pz_Cx p R s m args meth c G S mi) {off : Int} {x : Int32} {r : List Value} (hdg : decode (px_c mi) pc = .ok (.ifCond .le off, 3)) (hs : pz_br (pz_cc .le x 0) pc off L r h = some (.inl q)) (kk : pz_Go p l e R s m args below meth c Q G mi n0 m0 q) : pz_Go p l e R s m args below meth c Q G mi n0 m0 (pc, L, .int x :: r, h) := by
  obtain ⟨⟨hx, hb, hml, hown⟩, hts, ⟨hK, hN, hCa, hAO⟩, ⟨hbs, hbz, hX⟩, ⟨hlk, hnm, hrt⟩, hfr, hlo⟩ := C
  intro H ls locs cells slots Z hc hs2
  obtain ⟨t, ht', hs⟩ := Option.bind_eq_some_iff.mp hs
  have ht := pz_tgs ht'
  by_cases hP : x ≤ 0
  · have e1 : pz_cc .le x 0 = true := by simp [pz_cc, hP]
    rw [e1] at hs
    obtain rfl := pz_gos (show pz_go t L r h = some (.inl q) from hs)
    exact lv_if_le hx hb hdg ht (fun _ => kk H ls locs cells slots Z hc hs2) (fun z => absurd hP (by simpa using z))
  · have e1 : pz_cc .le x 0 = false := by simp [pz_cc] at hP ⊢; exact hP
    rw [e1] at hs
    obtain rfl := pz_gos (show pz_go (pc + 3) L r h = some (.inl q) from hs)
    exact lv_if_le hx hb hdg ht (fun z => absurd z hP) (fun _ => kk H ls locs cells slots Z hc hs2)
theorem pz_w_icmp_eq (C : pz_Cx p R s m args meth c G S mi) {off : Int} {x y : Int32} {r : List Value} (hdg : decode (px_c mi) pc = .ok (.if_icmp .eq off, 3)) (hs : pz_br (pz_cc .eq x y) pc off L r h = some (.inl q)) (kk : pz_Go p l e R s m args below meth c Q G mi n0 m0 q) : pz_Go p l e R s m args below meth c Q G mi n0 m0 (pc, L, .int y :: .int x :: r, h) := by
  obtain ⟨⟨hx, hb, hml, hown⟩, hts, ⟨hK, hN, hCa, hAO⟩, ⟨hbs, hbz, hX⟩, ⟨hlk, hnm, hrt⟩, hfr, hlo⟩ := C
  intro H ls locs cells slots Z hc hs2
  obtain ⟨t, ht', hs⟩ := Option.bind_eq_some_iff.mp hs
  have ht := pz_tgs ht'
  by_cases hP : x = y
  · have e1 : pz_cc .eq x y = true := by simp [pz_cc, hP]
    rw [e1] at hs
    obtain rfl := pz_gos (show pz_go t L r h = some (.inl q) from hs)
    exact lv_icmp_eq hx hb hdg ht (fun _ => kk H ls locs cells slots Z hc hs2) (fun z => absurd hP (by simpa using z))
  · have e1 : pz_cc .eq x y = false := by simp [pz_cc] at hP ⊢; exact hP
    rw [e1] at hs
    obtain rfl := pz_gos (show pz_go (pc + 3) L r h = some (.inl q) from hs)
    exact lv_icmp_eq hx hb hdg ht (fun z => absurd z hP) (fun _ => kk H ls locs cells slots Z hc hs2)
theorem pz_w_icmp_ne (C : pz_Cx p R s m args meth c G S mi) {off : Int} {x y : Int32} {r : List Value} (hdg : decode (px_c mi) pc = .ok (.if_icmp .ne off, 3)) (hs : pz_br (pz_cc .ne x y) pc off L r h = some (.inl q)) (kk : pz_Go p l e R s m args below meth c Q G mi n0 m0 q) : pz_Go p l e R s m args below meth c Q G mi n0 m0 (pc, L, .int y :: .int x :: r, h) := by
  obtain ⟨⟨hx, hb, hml, hown⟩, hts, ⟨hK, hN, hCa, hAO⟩, ⟨hbs, hbz, hX⟩, ⟨hlk, hnm, hrt⟩, hfr, hlo⟩ := C
  intro H ls locs cells slots Z hc hs2
  obtain ⟨t, ht', hs⟩ := Option.bind_eq_some_iff.mp hs
  have ht := pz_tgs ht'
  by_cases hP : ¬ x = y
  · have e1 : pz_cc .ne x y = true := by simp [pz_cc, hP]
    rw [e1] at hs
    obtain rfl := pz_gos (show pz_go t L r h = some (.inl q) from hs)
    exact lv_icmp_ne hx hb hdg ht (fun _ => kk H ls locs cells slots Z hc hs2) (fun z => absurd hP (by simpa using z))
  · have e1 : pz_cc .ne x y = false := by simp [pz_cc] at hP ⊢; exact hP
    rw [e1] at hs
    obtain rfl := pz_gos (show pz_go (pc + 3) L r h = some (.inl q) from hs)
    exact lv_icmp_ne hx hb hdg ht (fun z => absurd z hP) (fun _ => kk H ls locs cells slots Z hc hs2)
theorem pz_w_icmp_lt (C : pz_Cx p R s m args meth c G S mi) {off : Int} {x y : Int32} {r : List Value} (hdg : decode (px_c mi) pc = .ok (.if_icmp .lt off, 3)) (hs : pz_br (pz_cc .lt x y) pc off L r h = some (.inl q)) (kk : pz_Go p l e R s m args below meth c Q G mi n0 m0 q) : pz_Go p l e R s m args below meth c Q G mi n0 m0 (pc, L, .int y :: .int x :: r, h) := by
  obtain ⟨⟨hx, hb, hml, hown⟩, hts, ⟨hK, hN, hCa, hAO⟩, ⟨hbs, hbz, hX⟩, ⟨hlk, hnm, hrt⟩, hfr, hlo⟩ := C
  intro H ls locs cells slots Z hc hs2
  obtain ⟨t, ht', hs⟩ := Option.bind_eq_some_iff.mp hs
  have ht := pz_tgs ht'
  by_cases hP : x < y
  · have e1 : pz_cc .lt x y = true := by simp [pz_cc, hP]
    rw [e1] at hs
    obtain rfl := pz_gos (show pz_go t L r h = some (.inl q) from hs)
    exact lv_icmp_lt hx hb hdg ht (fun _ => kk H ls locs cells slots Z hc hs2) (fun z => absurd hP (by simpa using z))
  · have e1 : pz_cc .lt x y = false := by simp [pz_cc] at hP ⊢; exact hP
    rw [e1] at hs
    obtain rfl := pz_gos (show pz_go (pc + 3) L r h = some (.inl q) from hs)
    exact lv_icmp_lt hx hb hdg ht (fun z => absurd z hP) (fun _ => kk H ls locs cells slots Z hc hs2)
theorem pz_w_icmp_ge (C : pz_Cx p R s m args meth c G S mi) {off : Int} {x y : Int32} {r : List Value} (hdg : decode (px_c mi) pc = .ok (.if_icmp .ge off, 3)) (hs : pz_br (pz_cc .ge x y) pc off L r h = some (.inl q)) (kk : pz_Go p l e R s m args below meth c Q G mi n0 m0 q) : pz_Go p l e R s m args below meth c Q G mi n0 m0 (pc, L, .int y :: .int x :: r, h) := by
  obtain ⟨⟨hx, hb, hml, hown⟩, hts, ⟨hK, hN, hCa, hAO⟩, ⟨hbs, hbz, hX⟩, ⟨hlk, hnm, hrt⟩, hfr, hlo⟩ := C
  intro H ls locs cells slots Z hc hs2
  obtain ⟨t, ht', hs⟩ := Option.bind_eq_some_iff.mp hs
  have ht := pz_tgs ht'
  by_cases hP : y ≤ x
  · have e1 : pz_cc .ge x y = true := by simp [pz_cc, hP]
    rw [e1] at hs
    obtain rfl := pz_gos (show pz_go t L r h = some (.inl q) from hs)
    exact lv_icmp_ge hx hb hdg ht (fun _ => kk H ls locs cells slots Z hc hs2) (fun z => absurd hP (by simpa using z))
  · have e1 : pz_cc .ge x y = false := by simp [pz_cc] at hP ⊢; exact hP
    rw [e1] at hs
    obtain rfl := pz_gos (show pz_go (pc + 3) L r h = some (.inl q) from hs)
    exact lv_icmp_ge hx hb hdg ht (fun z => absurd z hP) (fun _ => kk H ls locs cells slots Z hc hs2)
theorem pz_w_icmp_gt (C : pz_Cx p R s m args meth c G S mi) {off : Int} {x y : Int32} {r : List Value} (hdg : decode (px_c mi) pc = .ok (.if_icmp .gt off, 3)) (hs : pz_br (pz_cc .gt x y) pc off L r h = some (.inl q)) (kk : pz_Go p l e R s m args below meth c Q G mi n0 m0 q) : pz_Go p l e R s m args below meth c Q G mi n0 m0 (pc, L, .int y :: .int x :: r, h) := by
  obtain ⟨⟨hx, hb, hml, hown⟩, hts, ⟨hK, hN, hCa, hAO⟩, ⟨hbs, hbz, hX⟩, ⟨hlk, hnm, hrt⟩, hfr, hlo⟩ := C
  intro H ls locs cells slots Z hc hs2
  obtain ⟨t, ht', hs⟩ := Option.bind_eq_some_iff.mp hs
  have ht := pz_tgs ht'
  by_cases hP : y < x
  · have e1 : pz_cc .gt x y = true := by simp [pz_cc, hP]
    rw [e1] at hs
    obtain rfl := pz_gos (show pz_go t L r h = some (.inl q) from hs)
    exact lv_icmp_gt hx hb hdg ht (fun _ => kk H ls locs cells slots Z hc hs2) (fun z => absurd hP (by simpa using z))
  · have e1 : pz_cc .gt x y = false := by simp [pz_cc] at hP ⊢; exact hP
    rw [e1] at hs
    obtain rfl := pz_gos (show pz_go (pc + 3) L r h = some (.inl q) from hs)
    exact lv_icmp_gt hx hb hdg ht (fun z => absurd z hP) (fun _ => kk H ls locs cells slots Z hc hs2)
theorem pz_w_icmp_le (C : pz_Cx p R s m args meth c G S mi) {off : Int} {x y : Int32} {r : List Value} (hdg : decode (px_c mi) pc = .ok (.if_icmp .le off, 3)) (hs : pz_br (pz_cc .le x y) pc off L r h = some (.inl q)) (kk : pz_Go p l e R s m args below meth c Q G mi n0 m0 q) : pz_Go p l e R s m args below meth c Q G mi n0 m0 (pc, L, .int y :: .int x :: r, h) := by
  obtain ⟨⟨hx, hb, hml, hown⟩, hts, ⟨hK, hN, hCa, hAO⟩, ⟨hbs, hbz, hX⟩, ⟨hlk, hnm, hrt⟩, hfr, hlo⟩ := C
  intro H ls locs cells slots Z hc hs2
  obtain ⟨t, ht', hs⟩ := Option.bind_eq_some_iff.mp hs
  have ht := pz_tgs ht'
  by_cases hP : x ≤ y
  · have e1 : pz_cc .le x y = true := by simp [pz_cc, hP]
    rw [e1] at hs
    obtain rfl := pz_gos (show pz_go t L r h = some (.inl q) from hs)
    exact lv_icmp_le hx hb hdg ht (fun _ => kk H ls locs cells slots Z hc hs2) (fun z => absurd hP (by simpa using z))
  · have e1 : pz_cc .le x y = false := by simp [pz_cc] at hP ⊢; exact hP
    rw [e1] at hs
    obtain rfl := pz_gos (show pz_go (pc + 3) L r h = some (.inl q) from hs)
    exact lv_icmp_le hx hb hdg ht (fun z => absurd z hP) (fun _ => kk H ls locs cells slots Z hc hs2)
end PZ
end
section
section PZ2
variable {p : Program} {l : Launch} {e : Env} {R : Room} {s : State} {m : MethodId} {args : Array Value} {below : List Frame} {meth : Method} {c : Code} {Q : State → Prop} {G : pz_D} {S : (Nat → Int32) × Nat} {mi n0 m0 : Nat} {pc : Nat} {L : pz_L} {st : List Value} {h : pz_H} {q : Nat × (pz_L × (List Value × pz_H))}
theorem pz_ixs {x : Int32} {n : Nat} (h : pz_ixd x n = true) : vp_in x n := by
  unfold pz_ixd at h
  simp only [Bool.and_eq_true, Bool.not_eq_true', decide_eq_false_iff_not] at h
  have h2 : x.toNatClampNeg < n := Nat.le_of_ble_eq_true h.2
  intro z
  rcases z with z | z
  · exact h.1 z
  · omega
theorem pz_vrf (G : pz_D) (r : Option Nat) : pz_v G.2.1.1 G.2.1.2 (va_rf r) = va_rf (r.map fun z => G.2.1.1 + z) := by cases r <;> rfl
theorem pz_Zup {H H1 : Heap} {ls : Array Slot} {locs locs1 : List Loc} {i k : Nat} {e : pz_E} (Z : pz_Z G s mi h H L ls locs) (hi : i < h.2.1) (z : H1.size = H.size) (o : ∀ q, q ≠ G.2.1.1 + i → H1[q]? = H[q]?) (he : pz_at G i e H1) (hl : locs1 = locs ++ [⟨G.2.1.1 + i, k⟩]) : pz_Z G s mi (pz_up h i e) H1 L ls locs1 := by
  refine ⟨Z.1.up hi z o he, fun q hq => ?_, Z.2.2.1, fun q hq => ?_⟩
  · rw [o q (by omega)]
    exact Z.2.1 q hq
  · rw [hl] at hq
    rcases List.mem_append.mp hq with h1 | h1
    · exact Z.2.2.2 q h1
    · rw [List.mem_singleton.mp h1]
      exact Nat.le_add_right _ _
theorem pz_Znw {H H1 : Heap} {ls : Array Slot} {locs : List Loc} {e : pz_E} {n : Nat} (Z : pz_Z G s mi h H L ls locs) (hb : G.2.1.1 ≤ s.heap.size) (z : H1.size = H.size + 1) (o : ∀ q, q < H.size → H1[q]? = H[q]?) (he : va_at G.1 px_cl (H.size, pz_e G e) H1) : pz_Z G s mi (pz_nw h e n) H1 L ls locs := by
  refine ⟨Z.1.nw z o he, fun q hq => ?_, Z.2.2⟩
  rw [o q (by rw [Z.1.1]; omega)]
  exact Z.2.1 q hq

theorem pz_w_iald (C : pz_Cx p R s m args meth c G S mi) (hdg : decode (px_c mi) pc = .ok (.iaload, 1)) (hs : pz_iald S pc L st h = some (.inl q)) (kk : pz_Go p l e R s m args below meth c Q G mi n0 m0 q) : pz_Go p l e R s m args below meth c Q G mi n0 m0 (pc, L, st, h) := by
  obtain ⟨⟨hx, hb, hml, hown⟩, hts, ⟨hK, hN, hCa, hAO⟩, ⟨hbs, hbz, hX⟩, ⟨hlk, hnm, hrt⟩, hfr, hlo⟩ := C
  unfold pz_iald at hs
  split at hs
  · rename_i j i r
    obtain ⟨f, h1, h2⟩ := Option.bind_eq_some_iff.mp hs
    split at h2
    · rename_i hj
      obtain rfl := pz_gos h2
      obtain ⟨g1, g2⟩ := pz_arr_spec h1
      intro H ls locs cells slots Z hc hs2
      exact va_iald hx hb hK (pz_one Z.1 g1 g2) 0 0 rfl rfl (pz_ixs hj) hdg (kk H ls locs cells slots Z hc hs2)
    · cases h2
  · rename_i j x r
    split at hs
    · rename_i hj
      obtain rfl := pz_gos hs
      intro H ls locs cells slots Z hc hs2
      obtain ⟨scr, a1, a2, a3, a4, a5⟩ := hX
      have hj := pz_ixs hj
      have hlt : j.toNatClampNeg < S.2 := Nat.not_le.mp fun q => hj (Or.inr q)
      exact W.iald (v := .int (S.1 j.toNatClampNeg)) hx hb (by rw [Z.2.1 _ hbs]; exact a1) a2 a3 (by rw [a4]; exact hj) (a5 _ hlt) rfl rfl hdg (kk H ls locs cells slots Z hc hs2)
    · cases hs
  · cases hs
theorem pz_w_alen (C : pz_Cx p R s m args meth c G S mi) (hdg : decode (px_c mi) pc = .ok (.arraylength, 1)) (hs : pz_alen S pc L st h = some (.inl q)) (kk : pz_Go p l e R s m args below meth c Q G mi n0 m0 q) : pz_Go p l e R s m args below meth c Q G mi n0 m0 (pc, L, st, h) := by
  obtain ⟨⟨hx, hb, hml, hown⟩, hts, ⟨hK, hN, hCa, hAO⟩, ⟨hbs, hbz, hX⟩, ⟨hlk, hnm, hrt⟩, hfr, hlo⟩ := C
  unfold pz_alen at hs
  split at hs
  · rename_i i r
    obtain ⟨f, h1, h2⟩ := Option.bind_eq_some_iff.mp hs
    obtain rfl := pz_gos h2
    obtain ⟨g1, g2⟩ := pz_arr_spec h1
    intro H ls locs cells slots Z hc hs2
    exact va_alen hx hb hK (pz_one Z.1 g1 g2) 0 0 rfl rfl rfl hdg (kk H ls locs cells slots Z hc hs2)
  · rename_i x r
    obtain rfl := pz_gos hs
    intro H ls locs cells slots Z hc hs2
    obtain ⟨scr, a1, a2, a3, a4, a5⟩ := hX
    exact W.alen (n := Int32.ofNat S.2) hx hb (by rw [Z.2.1 _ hbs]; exact a1) a2 (by rw [a4] <;> rfl) rfl rfl hdg (kk H ls locs cells slots Z hc hs2)
  · cases hs
theorem pz_w_iast (C : pz_Cx p R s m args meth c G S mi) (hdg : decode (px_c mi) pc = .ok (.iastore, 1)) (hs : pz_iast pc L st h = some (.inl q)) (kk : pz_Go p l e R s m args below meth c Q G mi n0 m0 q) : pz_Go p l e R s m args below meth c Q G mi n0 m0 (pc, L, st, h) := by
  obtain ⟨⟨hx, hb, hml, hown⟩, hts, ⟨hK, hN, hCa, hAO⟩, ⟨hbs, hbz, hX⟩, ⟨hlk, hnm, hrt⟩, hfr, hlo⟩ := C
  unfold pz_iast at hs
  split at hs
  · rename_i x j i r
    obtain ⟨f, h1, h2⟩ := Option.bind_eq_some_iff.mp hs
    split at h2
    · rename_i hj
      obtain rfl := pz_gos h2
      obtain ⟨g1, g2⟩ := pz_arr_spec h1
      intro H ls locs cells slots Z hc hs2
      have hj := pz_ixs hj
      refine W.iast hx hb (pz_one Z.1 g1 g2 0 _ rfl) ((hK.2 0 _ rfl).1 f.1 (fun j => .int (f.2 j))) (fun q => by cases q) (by show ¬ (j < 0 ∨ (arrV _ _ _).slots.size ≤ _); rw [arrV_size]; exact hj) rfl rfl hdg fun H1 e z oq => ?_
      refine kk H1 ls _ cells slots (pz_Zup Z g1 z oq ?_ rfl) hc hs2
      show H1[G.2.1.1 + i]? = some (vp_cell _ _)
      rw [e]
      rw [vp_cell_i, vp_cell_i, arrV_store]
      congr 2
      funext y
      by_cases hq : y = j.toNatClampNeg
      · subst hq
        simp [updV, upd]
      · simp [updV, upd, hq]
    · cases h2
  · cases hs
theorem pz_w_aald (C : pz_Cx p R s m args meth c G S mi) (hdg : decode (px_c mi) pc = .ok (.aaload, 1)) (hs : pz_aald pc L st h = some (.inl q)) (kk : pz_Go p l e R s m args below meth c Q G mi n0 m0 q) : pz_Go p l e R s m args below meth c Q G mi n0 m0 (pc, L, st, h) := by
  obtain ⟨⟨hx, hb, hml, hown⟩, hts, ⟨hK, hN, hCa, hAO⟩, ⟨hbs, hbz, hX⟩, ⟨hlk, hnm, hrt⟩, hfr, hlo⟩ := C
  unfold pz_aald at hs
  split at hs
  · rename_i j i r
    obtain ⟨f, h1, h2⟩ := Option.bind_eq_some_iff.mp hs
    split at h2
    · rename_i hj
      obtain rfl := pz_gos h2
      obtain ⟨g1, g2⟩ := pz_arq_spec h1
      intro H ls locs cells slots Z hc hs2
      refine va_aldq hx hb hK (pz_one Z.1 g1 g2) 0 1 rfl rfl (pz_ixs hj) hdg ?_
      have k2 := kk H ls locs cells slots Z hc hs2
      rw [show (va_rf (f.2 j.toNatClampNeg) :: r).map (pz_v G.2.1.1 G.2.1.2) = va_rf ((f.2 j.toNatClampNeg).map fun z => G.2.1.1 + z) :: r.map (pz_v G.2.1.1 G.2.1.2) by rw [List.map_cons, pz_vrf]] at k2
      exact k2
    · cases h2
  · cases hs
theorem pz_w_aast (C : pz_Cx p R s m args meth c G S mi) (hdg : decode (px_c mi) pc = .ok (.aastore, 1)) (hs : pz_aast pc L st h = some (.inl q)) (kk : pz_Go p l e R s m args below meth c Q G mi n0 m0 q) : pz_Go p l e R s m args below meth c Q G mi n0 m0 (pc, L, st, h) := by
  obtain ⟨⟨hx, hb, hml, hown⟩, hts, ⟨hK, hN, hCa, hAO⟩, ⟨hbs, hbz, hX⟩, ⟨hlk, hnm, hrt⟩, hfr, hlo⟩ := C
  unfold pz_aast at hs
  split at hs
  · rename_i v j i r
    obtain ⟨f, h1, h2⟩ := Option.bind_eq_some_iff.mp hs
    split at h2
    · rename_i hj
      simp only [Bool.and_eq_true] at hj
      obtain ⟨hj, hv⟩ := hj
      obtain ⟨vs, hv⟩ := Option.isSome_iff_exists.mp hv
      obtain rfl := pz_gos h2
      obtain ⟨g1, g2⟩ := pz_arq_spec h1
      obtain ⟨v1, v2⟩ := pz_obj_spec hv
      intro H ls locs cells slots Z hc hs2
      have hj := pz_ixs hj
      have hlt : j.toNatClampNeg < f.1 := Nat.not_le.mp fun q => hj (Or.inr q)
      have h0 : ¬ j < 0 := fun q => hj (Or.inl q)
      obtain ⟨r', hr', cellV, k1, k2, k3, -⟩ := pz_one Z.1 v1 v2 0 _ rfl
      have hcls := (hK.1 3 _ (px_clat (by decide : 3 < 10))).2
      obtain ⟨kA, comp, b1, b2, b3, -⟩ := (hK.2 1 _ rfl).2
      have hcomp : comp = G.1.1 3 := Option.some.inj (b3.symm.trans hcls.1)
      subst hcomp
      obtain ⟨kC, hkC, -⟩ := hcls.2
      refine W.aast hx hb (pz_one Z.1 g1 g2 0 _ rfl) (fun q h => by cases h) (fun h => by cases h) b1 b2 rfl hkC ⟨h0, by show _ < (arrV _ _ _).slots.size; rw [arrV_size]; exact hlt⟩ k1 (fun q h => by rw [k3] at h; cases h) (by rw [k2]; exact hkC) (by rw [k2]; exact va_assign hcls) rfl rfl hdg fun H1 e z oq => ?_
      refine kk H1 ls _ cells slots (pz_Zup Z g1 z oq ?_ rfl) hc hs2
      show H1[G.2.1.1 + i]? = some (vp_cell _ _)
      rw [e]
      rw [vp_cell_q, vp_cell_q, arrV_store]
      congr 2
      funext y
      by_cases hq : y = j.toNatClampNeg
      · subst hq
        simp [updV, va_up, va_rf]
      · simp [updV, va_up, hq]
    · cases h2
  · rename_i j i r
    obtain ⟨f, h1, h2⟩ := Option.bind_eq_some_iff.mp hs
    split at h2
    · rename_i hj
      obtain rfl := pz_gos h2
      obtain ⟨g1, g2⟩ := pz_arq_spec h1
      intro H ls locs cells slots Z hc hs2
      have hj := pz_ixs hj
      refine va_WaastN (C := RX3) hx hb (pz_one Z.1 g1 g2 0 _ rfl) ((hK.2 1 _ rfl).1 f.1 (fun j => va_rf ((f.2 j).map fun z => G.2.1.1 + z))) (fun h => by cases h) (by show ¬ (j < 0 ∨ (arrV _ _ _).slots.size ≤ _); rw [arrV_size]; exact hj) rfl rfl hdg fun H1 e z oq => ?_
      refine kk H1 ls _ cells slots (pz_Zup Z g1 z oq ?_ rfl) hc hs2
      show H1[G.2.1.1 + i]? = some (vp_cell _ _)
      rw [e]
      rw [vp_cell_q, vp_cell_q, arrV_store]
      congr 2
      funext y
      by_cases hq : y = j.toNatClampNeg
      · subst hq
        simp [updV, va_up, va_rf]
      · simp [updV, va_up, hq]
    · cases h2
  · cases hs
theorem pz_w_getf (C : pz_Cx p R s m args meth c G S mi) {i a b : Nat} (hf : px_fk mi i a b = true) (hdg : decode (px_c mi) pc = .ok (.getfield i, 3)) (hs : pz_getf a b pc L st h = some (.inl q)) (kk : pz_Go p l e R s m args below meth c Q G mi n0 m0 q) : pz_Go p l e R s m args below meth c Q G mi n0 m0 (pc, L, st, h) := by
  obtain ⟨⟨hx, hb, hml, hown⟩, hts, ⟨hK, hN, hCa, hAO⟩, ⟨hbs, hbz, hX⟩, ⟨hlk, hnm, hrt⟩, hfr, hlo⟩ := C
  unfold pz_getf at hs
  split at hs
  · rename_i i r
    obtain ⟨fs, h1, h2⟩ := Option.bind_eq_some_iff.mp hs
    obtain ⟨v, h3, h4⟩ := Option.bind_eq_some_iff.mp h2
    obtain rfl := pz_gos h4
    obtain ⟨g1, g2⟩ := pz_obj_spec h1
    obtain ⟨f1, f2, f3⟩ := px_fkk hf
    intro H ls locs cells slots Z hc hs2
    exact va_get hx hb hts (px_uin f1) hown hK (pz_one Z.1 g1 g2) 0 rfl (px_clat f1) b f2 (hts _ f3) (fun _ z => z) (v := pz_v G.2.1.1 G.2.1.2 v) (by rw [List.getElem?_map, h3]; rfl) hdg (kk H ls locs cells slots Z hc hs2)
  · cases hs
theorem pz_fits {t : FieldType} {v : Value} (h : pz_fit t v = true) : narrow t (pz_v G.2.1.1 G.2.1.2 v) = pz_v G.2.1.1 G.2.1.2 v ∧ fits t (pz_v G.2.1.1 G.2.1.2 v) = true := by
  unfold pz_fit at h
  split at h
  · exact ⟨rfl, rfl⟩
  · simp only [Bool.or_eq_true, beq_iff_eq] at h
    rcases h with rfl | rfl <;> exact ⟨rfl, rfl⟩
  · exact ⟨rfl, rfl⟩
  · exact ⟨rfl, rfl⟩
  · exact ⟨rfl, rfl⟩
  · exact ⟨rfl, rfl⟩
  · exact ⟨rfl, rfl⟩
  · cases h
theorem pz_w_putf (C : pz_Cx p R s m args meth c G S mi) {i a b : Nat} (hf : px_fk mi i a b = true) (hf2 : (!(px_T a b).2.2.2 || (decide ((px_y mi).name = "<init>") && decide ((px_T a b).1 = px_R (px_o mi)))) = true) (hdg : decode (px_c mi) pc = .ok (.putfield i, 3)) (hs : pz_putf a b pc L st h = some (.inl q)) (kk : pz_Go p l e R s m args below meth c Q G mi n0 m0 q) : pz_Go p l e R s m args below meth c Q G mi n0 m0 (pc, L, st, h) := by
  obtain ⟨⟨hx, hb, hml, hown⟩, hts, ⟨hK, hN, hCa, hAO⟩, ⟨hbs, hbz, hX⟩, ⟨hlk, hnm, hrt⟩, hfr, hlo⟩ := C
  unfold pz_putf at hs
  split at hs
  · rename_i v i r
    obtain ⟨fs, h1, h2⟩ := Option.bind_eq_some_iff.mp hs
    split at h2
    · rename_i hj
      simp only [Bool.and_eq_true] at hj
      obtain ⟨hj, hv⟩ := hj
      have hj : b < fs.length := Nat.le_of_ble_eq_true hj
      obtain rfl := pz_gos h2
      obtain ⟨g1, g2⟩ := pz_obj_spec h1
      obtain ⟨f1, f2, f3⟩ := px_fkk hf
      obtain ⟨v1, v2⟩ := pz_fits (G := G) hv
      intro H ls locs cells slots Z hc hs2
      have hin := px_uin f1
      have hap := va_apart (own := px_R (px_o mi)) hts hin (px_ty a) (px_tyok f1) (px_nm f1) hK (px_clat f1)
      obtain ⟨r1, k1, cell, q1, q2, q3, q4⟩ := pz_one Z.1 g1 g2 0 _ rfl
      have hr : r1 = (px_R a, px_T a, px_N a) := Option.some.inj (k1.symm.trans (px_clat f1))
      subst hr
      obtain ⟨hS, hfc, kC, hkC, hkind⟩ := hK.1 a _ (px_clat f1)
      obtain ⟨cf, kf, fi, f, hi, hsl⟩ := hS b f2
      have hst := (u_facts hfc hkC (u_lays hts hin f2) hi).1
      have hd := px_tyok f1 b f2
      have fin : ∀ H' : Heap, H'[G.2.1.1 + i]? = some (cell.setSlot f.slot (pz_v G.2.1.1 G.2.1.2 v)) → pz_at G i (.inr (.inr (a, fs.set b v))) H' := by
        intro H' e1
        rw [hsl] at e1
        refine ⟨_, px_clat f1, t_OB.to (V := updV (vp_V (fs.map (pz_v G.2.1.1 G.2.1.2))) b (pz_v G.2.1.1 G.2.1.2 v)) ⟨_, e1, q2, q3, t_set q4 hap f2 _⟩ (fun j _ => ?_)⟩
        rw [vp_updV_set (by rw [List.length_map]; exact hj)]
        show vp_V _ j = vp_V ((fs.set b v).map (pz_v G.2.1.1 G.2.1.2)) j
        rw [List.map_set]
      have hlay := hts _ (hin _ (u_in_lay f2))
      unfold u_lay at hlay
      by_cases hfin : (px_T a b).2.2.2 = true
      · rw [if_pos hfin] at hlay
        rw [hfin] at hf2
        simp only [Bool.not_true, Bool.false_or, Bool.and_eq_true, decide_eq_true_eq] at hf2
        have hcf : m.cls = cf := by
          obtain ⟨_, _, c', _, _, _, -, -, hf', -, -, -, hown2, -⟩ := Cond.laysFinal_spec hlay
          have e1 : c' = cf := by have := hi.symm.trans hf'; simp at this; exact this.1.symm
          rw [hf2.2] at hown2
          rw [← e1]; exact Option.some.inj (hown.symm.trans hown2)
        have h6 := u_fits hfc hkC hkind (Or.inr hlay) hi hd v1 v2
        refine W.putFinK hx hb hown (hts _ f3) hi hst hcf (hnm hf2.1) (by rw [q2]; exact h6) q1 q3 (by rw [hsl]; exact k2_hasslot (q4 b f2)) rfl rfl hdg fun H' e1 e2 e3 => ?_
        exact kk H' ls _ cells slots (pz_Zup Z g1 e2 e3 (fin H' e1) rfl) hc hs2
      · rw [if_neg hfin] at hlay
        have h6 := u_store hfc hkC hkind hlay hi hd v1 v2
        refine W.putK hx hb (f := f) ⟨hown, hts _ f3, ⟨_, _, _, hi⟩, hst⟩ (by rw [q2]; exact h6) q1 q3 (by rw [hsl]; exact k2_hasslot (q4 b f2)) rfl rfl hdg fun H' e1 e2 e3 => ?_
        exact kk H' ls _ cells slots (pz_Zup Z g1 e2 e3 (fin H' e1) rfl) hc hs2
    · cases h2
  · cases hs
theorem pz_w_new (C : pz_Cx p R s m args meth c G S mi) {i a : Nat} (hf : px_nk mi i a = true) (hdg : decode (px_c mi) pc = .ok (.new i, 3)) (hs : pz_go (pc + 3) L (.ref h.2.1 :: st) (pz_nw h (.inr (.inr (a, px_df a))) (px_N a)) = some (.inl q)) (hr1 : q.2.2.2.2.1 ≤ n0 + R.cells) (hr2 : q.2.2.2.2.2 ≤ m0 + R.slots) (kk : pz_Go p l e R s m args below meth c Q G mi n0 m0 q) : pz_Go p l e R s m args below meth c Q G mi n0 m0 (pc, L, st, h) := by
  obtain ⟨⟨hx, hb, hml, hown⟩, hts, ⟨hK, hN, hCa, hAO⟩, ⟨hbs, hbz, hX⟩, ⟨hlk, hnm, hrt⟩, hfr, hlo⟩ := C
  obtain rfl := pz_gos hs
  obtain ⟨f1, f2, f3, f4⟩ := px_nkk hf
  intro H ls locs cells slots Z hc hs2
  have hin := px_uin f1
  have hKn := hK.1 a _ (px_clat f1)
  have r1 : h.2.1 + 1 ≤ n0 + R.cells := hr1
  have r2 : h.2.2 + px_N a ≤ m0 + R.slots := hr2
  refine W.newcK hx hb hown (hts _ f2) (hts _ f3) (hts _ f4) rfl hdg (by show cells + 1 ≤ _; have : n0 + cells = h.2.1 := hc; omega) (by show slots + px_N a ≤ _; have : m0 + slots = h.2.2 := hs2; omega) hKn.2.1 rfl fun H1 kC hkC e1 z1 o1 => ?_
  have k2 := kk H1 ls locs (cells + 1) (slots + px_N a) (pz_Znw Z hbz z1 o1 ⟨_, px_clat f1, (u_born (px_ty a) hts hin hKn hkC e1 (px_tyok f1)).to (fun j hj => ?_)⟩) (by show n0 + (cells + 1) = h.2.1 + 1; have : n0 + cells = h.2.1 := hc; omega) (by show m0 + (slots + px_N a) = h.2.2 + px_N a; have : m0 + slots = h.2.2 := hs2; omega)
  · have e2 : G.2.1.1 + h.2.1 = H.size := Z.1.1.symm
    have e3 : (Value.ref h.2.1 :: st).map (pz_v G.2.1.1 G.2.1.2) = .ref H.size :: st.map (pz_v G.2.1.1 G.2.1.2) := by rw [List.map_cons, ← e2]; rfl
    rw [e3] at k2
    exact k2
  · rw [(px_dfl f1).2 j hj]
    have hdv := List.all_eq_true.mp px_dfv a (List.mem_range.mpr f1)
    show vp_V (px_df a) j = vp_V ((px_df a).map (pz_v G.2.1.1 G.2.1.2)) j
    unfold vp_V
    rw [List.getD_eq_getElem?_getD, List.getD_eq_getElem?_getD, List.getElem?_map]
    cases hv : (px_df a)[j]? with
    | none => rfl
    | some w =>
      have := List.all_eq_true.mp hdv w (List.mem_of_getElem? hv)
      simp only [Bool.or_eq_true, decide_eq_true_eq] at this
      rcases this with (rfl | rfl) | rfl <;> rfl
theorem pz_w_newa (C : pz_Cx p R s m args meth c G S mi) (hdg : decode (px_c mi) pc = .ok (.newarray .int, 2)) (hs : pz_newa pc L st h = some (.inl q)) (hr1 : q.2.2.2.2.1 ≤ n0 + R.cells) (hr2 : q.2.2.2.2.2 ≤ m0 + R.slots) (kk : pz_Go p l e R s m args below meth c Q G mi n0 m0 q) : pz_Go p l e R s m args below meth c Q G mi n0 m0 (pc, L, st, h) := by
  obtain ⟨⟨hx, hb, hml, hown⟩, hts, ⟨hK, hN, hCa, hAO⟩, ⟨hbs, hbz, hX⟩, ⟨hlk, hnm, hrt⟩, hfr, hlo⟩ := C
  unfold pz_newa at hs
  split at hs
  · rename_i n r
    split at hs
    · rename_i hj
      simp only [Bool.and_eq_true, Bool.not_eq_true', decide_eq_false_iff_not] at hj
      have hj2 := Nat.le_of_ble_eq_true hj.2
      obtain rfl := pz_gos hs
      intro H ls locs cells slots Z hc hs2
      have r1 : h.2.1 + 1 ≤ n0 + R.cells := hr1
      have r2 : h.2.2 + n.toNatClampNeg ≤ m0 + R.slots := hr2
      refine va_newaK (atype := .int) hx hb (hts _ (px_in px_w_arr.1 rfl)) rfl hdg rfl hj.1 rfl hj2 (by have : n0 + cells = h.2.1 := hc; omega) (by have : m0 + slots = h.2.2 := hs2; omega) rfl fun H1 cA e1 z1 o1 hAr hNm => ?_
      have hcA : cA = G.2.2.1 := Option.some.inj (hNm.symm.trans (hK.2 0 _ rfl).2)
      subst hcA
      have k2 := kk H1 ls locs (cells + 1) (slots + n.toNatClampNeg) (pz_Znw Z hbz z1 o1 e1) (by show n0 + (cells + 1) = h.2.1 + 1; have : n0 + cells = h.2.1 := hc; omega) (by show m0 + (slots + n.toNatClampNeg) = h.2.2 + n.toNatClampNeg; have : m0 + slots = h.2.2 := hs2; omega)
      have e2 : G.2.1.1 + h.2.1 = H.size := Z.1.1.symm
      have e3 : (Value.ref h.2.1 :: r).map (pz_v G.2.1.1 G.2.1.2) = .ref H.size :: r.map (pz_v G.2.1.1 G.2.1.2) := by rw [List.map_cons, ← e2]; rfl
      rw [e3] at k2
      exact k2
    · cases hs
  · cases hs
theorem pz_w_newq (C : pz_Cx p R s m args meth c G S mi) {i : Nat} (hf : px_nk mi i 3 = true) (hdg : decode (px_c mi) pc = .ok (.anewarray i, 3)) (hs : pz_newq pc L st h = some (.inl q)) (hr1 : q.2.2.2.2.1 ≤ n0 + R.cells) (hr2 : q.2.2.2.2.2 ≤ m0 + R.slots) (kk : pz_Go p l e R s m args below meth c Q G mi n0 m0 q) : pz_Go p l e R s m args below meth c Q G mi n0 m0 (pc, L, st, h) := by
  obtain ⟨⟨hx, hb, hml, hown⟩, hts, ⟨hK, hN, hCa, hAO⟩, ⟨hbs, hbz, hX⟩, ⟨hlk, hnm, hrt⟩, hfr, hlo⟩ := C
  unfold pz_newq at hs
  split at hs
  · rename_i n r
    split at hs
    · rename_i hj
      simp only [Bool.and_eq_true, Bool.not_eq_true', decide_eq_false_iff_not] at hj
      have hj2 := Nat.le_of_ble_eq_true hj.2
      obtain rfl := pz_gos hs
      obtain ⟨f1, f2, f3, f4⟩ := px_nkk hf
      intro H ls locs cells slots Z hc hs2
      have r1 : h.2.1 + 1 ≤ n0 + R.cells := hr1
      have r2 : h.2.2 + n.toNatClampNeg ≤ m0 + R.slots := hr2
      refine W.anew hx hb hown (hts _ f2) (va_AO.use hAO) rfl hdg rfl hj.1 hj2 (by have : n0 + cells = h.2.1 := hc; omega) (by have : m0 + slots = h.2.2 := hs2; omega) fun cA kA comp d1 d2 d3 d4 => ?_
      obtain ⟨kA', comp', b1, b2, b3, b4⟩ := (hK.2 1 _ rfl).2
      have hcA : cA = G.2.2.2 := Option.some.inj (d1.symm.trans b4)
      subst hcA
      generalize hH1 : H.push ({ cls := G.2.2.2, slots := Array.replicate n.toNatClampNeg .null, vm := .none } : Cell) = H1
      have z1 : H1.size = H.size + 1 := by rw [← hH1, Array.size_push]
      have e1 : H1[H.size]? = some (arrV G.2.2.2 n.toNatClampNeg (fun _ => .null)) := by rw [← hH1, Array.getElem?_push_size, ← arrV_new]
      have o1 : ∀ q : Nat, q < H.size → H1[q]? = H[q]? := fun q hq => by rw [← hH1, Array.getElem?_push, if_neg (Nat.ne_of_lt hq)]
      have k2 := kk H1 ls locs (cells + 1) (slots + n.toNatClampNeg) (pz_Znw Z hbz z1 o1 e1) (by show n0 + (cells + 1) = h.2.1 + 1; have : n0 + cells = h.2.1 := hc; omega) (by show m0 + (slots + n.toNatClampNeg) = h.2.2 + n.toNatClampNeg; have : m0 + slots = h.2.2 := hs2; omega)
      have e2 : G.2.1.1 + h.2.1 = H.size := Z.1.1.symm
      have e3 : (Value.ref h.2.1 :: r).map (pz_v G.2.1.1 G.2.1.2) = .ref H.size :: r.map (pz_v G.2.1.1 G.2.1.2) := by rw [List.map_cons, ← e2]; rfl
      rw [e3] at k2
      exact k2
    · cases hs
  · cases hs
end PZ2
end
section
section PZ3
variable {p : Program} {l : Launch} {e : Env} {R : Room} {s : State} {m : MethodId} {args : Array Value} {below : List Frame} {meth : Method} {c : Code} {Q : State → Prop} {G : pz_D} {S : (Nat → Int32) × Nat} {mi n0 m0 : Nat} {pc : Nat} {L : pz_L} {st : List Value} {h : pz_H} {q : Nat × (pz_L × (List Value × pz_H))}
theorem pz_ble {a n : Nat} {α : Type} {x y : Option α} {z : α} (h : (match Nat.ble a n with | true => x | false => none) = some z) : a ≤ n ∧ x = some z := by
  cases e : Nat.ble a n with
  | true => rw [e] at h; exact ⟨Nat.le_of_ble_eq_true e, h⟩
  | false => rw [e] at h; cases h
theorem pz_w_obj (C : pz_Cx p R s m args meth c G S mi) {i : Nat} {r : List Value} {a : Nat} (hf : px_xk mi i 1000 = true) (hdg : decode (px_c mi) pc = .ok (.invokespecial i, 3)) (hs : (match Nat.ble (pz_sum r) 8 with | true => pz_go (pc + 3) L r h | false => none) = some (.inl q)) (kk : pz_Go p l e R s m args below meth c Q G mi n0 m0 q) : pz_Go p l e R s m args below meth c Q G mi n0 m0 (pc, L, .ref a :: r, h) := by
  obtain ⟨⟨hx, hb, hml, hown⟩, hts, ⟨hK, hN, hCa, hAO⟩, ⟨hbs, hbz, hX⟩, ⟨hlk, hnm, hrt⟩, hfr, hlo⟩ := C
  obtain ⟨f1, f2, f3⟩ := px_xkk hf
  obtain ⟨h1, h2⟩ := pz_ble (y := none) hs
  obtain rfl := pz_gos h2
  intro H ls locs cells slots Z hc hs2
  refine W.objInit hx hb hown (hts _ f1) (hts _ (px_in px_w_arr.2.2.1 rfl)) (hts _ (px_in px_w_arr.2.2.2.1 rfl)) (g := F0 m pc ls (.ref (G.2.1.1 + a) :: r.map (pz_v G.2.1.1 G.2.1.2))) rfl (by rw [hml]; exact Z.2.2.1.2.1) rfl hdg (Nat.le_trans f2 hfr) (by rw [pz_vsum]; show 2 * 0 + _ + 12 ≤ _; omega) (kk H ls locs cells slots Z hc hs2)
theorem pz_w_clone (C : pz_Cx p R s m args meth c G S mi) {i : Nat} {r : List Value} {a : Nat} (hf : px_xk mi i 1002 = true) (hdg : decode (px_c mi) pc = .ok (.invokevirtual i, 3)) (hs : ((pz_arr h a).bind fun q => match Nat.ble (pz_sum r) 8 with | true => pz_go (pc + 3) L (.ref h.2.1 :: r) (pz_nw h (.inl q) q.1) | false => none) = some (.inl q)) (hr1 : q.2.2.2.2.1 ≤ n0 + R.cells) (hr2 : q.2.2.2.2.2 ≤ m0 + R.slots) (kk : pz_Go p l e R s m args below meth c Q G mi n0 m0 q) : pz_Go p l e R s m args below meth c Q G mi n0 m0 (pc, L, .ref a :: r, h) := by
  obtain ⟨⟨hx, hb, hml, hown⟩, hts, ⟨hK, hN, hCa, hAO⟩, ⟨hbs, hbz, hX⟩, ⟨hlk, hnm, hrt⟩, hfr, hlo⟩ := C
  obtain ⟨f1, f2, f3⟩ := px_xkk hf
  obtain ⟨x, h1, h2⟩ := Option.bind_eq_some_iff.mp hs
  obtain ⟨h3, h4⟩ := pz_ble (y := none) h2
  obtain rfl := pz_gos h4
  obtain ⟨g1, g2⟩ := pz_arr_spec h1
  have r1 : h.2.1 + 1 ≤ n0 + R.cells := hr1
  have r2 : h.2.2 + x.1 ≤ m0 + R.slots := hr2
  obtain ⟨w1, w2, w3, w4, w5⟩ := px_w_cl
  intro H ls locs cells slots Z hc hs2
  have hsz : (vp_cell G.2.2.1 (x.1, .inl x.2)).slots.size = x.1 := arrV_size _ _ _
  have hnm2 := va_nm_int (hK.2 0 _ rfl).2
  obtain ⟨c0, t0', d1, d2, d3⟩ := Cond.castable_spec (va_Nw.use (A := args) rfl hCa)
  cases hnm2.symm.trans d1
  intro T hT X
  have hcellT : T.heap[G.2.1.1 + a]? = some (vp_cell G.2.2.1 (x.1, .inl x.2)) := by rw [hT]; exact pz_one Z.1 g1 g2 0 _ rfl
  obtain ⟨-, kA, hkA, comp, hkind⟩ := State.isArrayOf_alike X.warmed.alike ((hK.2 0 _ rfl).1 0 (fun _ => .null))
  obtain ⟨-, kS, hkS, compS, hkindS⟩ := (hK.2 0 _ rfl).1 0 (fun _ => .null)
  obtain ⟨vm', X', st⟩ := X.cloneArray hx hown (hts _ f1) (hts _ (px_in w1 rfl)) (hts _ (px_in w2 rfl)) (hts _ (px_in w3 rfl)) (hts _ (px_in w4 rfl)) (a := G.2.1.1 + a) (cell := vp_cell G.2.2.1 (x.1, .inl x.2)) hcellT (fun k h => by cases h) (fun h => by cases h) hnm2 d2 d3
    (fun i v hv => by
      have hk' : T.vm.classes[G.2.2.1]? = some kA := hkA
      have hv2 := va_fit (cA := G.2.2.1) (n := x.1) (F := fun j => .int (x.2 j)) (ty := .int) (fun _ _ => rfl) i v hv
      show T.fitsSlot G.2.2.1 _ i v = true
      simpa [State.fitsSlot, State.slotType?, hk', hkind] using hv2)
    (g := F0 m pc ls (.ref (G.2.1.1 + a) :: r.map (pz_v G.2.1.1 G.2.1.2))) rfl (by rw [hml]; exact Z.2.2.1.2.1) rfl (by rw [hb]; exact hdg) (Nat.le_trans f2 hfr) (by rw [pz_vsum]; show 2 * 0 + _ + 14 ≤ _; omega) (by have : n0 + cells = h.2.1 := hc; omega) (by rw [hsz]; have : m0 + slots = h.2.2 := hs2; omega) (hloader := Vm.clonesLoader_of_array hkS hkindS)
  have hcellE : ({ cls := (vp_cell G.2.2.1 (x.1, .inl x.2)).cls, slots := (vp_cell G.2.2.1 (x.1, .inl x.2)).slots } : Cell) = vp_cell G.2.2.1 (x.1, .inl x.2) := rfl
  rw [hcellE, hsz] at X'
  rw [hcellE] at st
  generalize hH1 : H.push (vp_cell G.2.2.1 (x.1, .inl x.2)) = H1
  have z1 : H1.size = H.size + 1 := by rw [← hH1, Array.size_push]
  have e1 : H1[H.size]? = some (vp_cell G.2.2.1 (x.1, .inl x.2)) := by rw [← hH1, Array.getElem?_push_size]
  have o1 : ∀ q : Nat, q < H.size → H1[q]? = H[q]? := fun q hq => by rw [← hH1, Array.getElem?_push, if_neg (Nat.ne_of_lt hq)]
  have k2 := kk H1 ls locs (cells + 1) (slots + x.1) (pz_Znw Z hbz z1 o1 e1) (by show n0 + (cells + 1) = h.2.1 + 1; have : n0 + cells = h.2.1 := hc; omega) (by show m0 + (slots + x.1) = h.2.2 + x.1; have : m0 + slots = h.2.2 := hs2; omega)
  obtain ⟨t, b1, b2⟩ := k2 ((T.setVm vm').pushCell (vp_cell G.2.2.1 (x.1, .inl x.2))) (by rw [← hH1, ← hT]; rfl) X'
  refine ⟨t, st t ?_, b2⟩
  have e2 : G.2.1.1 + h.2.1 = H.size := Z.1.1.symm
  have e3 : (Value.ref h.2.1 :: r).map (pz_v G.2.1.1 G.2.1.2) = .ref H.size :: r.map (pz_v G.2.1.1 G.2.1.2) := by rw [List.map_cons, ← e2]; rfl
  rw [hT]
  simp only [e3] at b1
  exact b1
theorem pz_w_cpy (C : pz_Cx p R s m args meth c G S mi) {i : Nat} (hf : px_xk mi i 1001 = true) (hdg : decode (px_c mi) pc = .ok (.invokestatic i, 3)) (hs : pz_cpy pc L st h = some (.inl q)) (kk : pz_Go p l e R s m args below meth c Q G mi n0 m0 q) : pz_Go p l e R s m args below meth c Q G mi n0 m0 (pc, L, st, h) := by
  obtain ⟨⟨hx, hb, hml, hown⟩, hts, ⟨hK, hN, hCa, hAO⟩, ⟨hbs, hbz, hX⟩, ⟨hlk, hnm, hrt⟩, hfr, hlo⟩ := C
  obtain ⟨f1, f2, f3⟩ := px_xkk hf
  unfold pz_cpy at hs
  split at hs
  · rename_i n dp d sp a0 r
    obtain ⟨f, h1, hs⟩ := Option.bind_eq_some_iff.mp hs
    obtain ⟨g, h2, hs⟩ := Option.bind_eq_some_iff.mp hs
    split at hs
    · rename_i hj
      obtain ⟨j1, j2, j3, j4, j5, j6⟩ := hj
      obtain rfl := pz_gos hs
      obtain ⟨a1, a2⟩ := pz_arr_spec h1
      obtain ⟨b1, b2⟩ := pz_arr_spec h2
      intro H ls locs cells slots Z hc hs2
      have nn : ∀ z : Int32, ¬ z < 0 → z.toInt = (z.toNatClampNeg : Int) := by
        intro z hz
        have hz0 : (0 : Int) ≤ z.toInt := by
          have := Int32.not_lt.mp hz
          simpa using Int32.le_iff_toInt_le.mp this
        show z.toInt = ((z.toInt.toNat : Nat) : Int)
        omega
      intro T hT X
      have e5 : nativeFrameWords "java/lang/System" "arraycopy" 5 = 7 := by decide +kernel
      have hc0 : H[G.2.1.1 + a0]? = some (vp_cell G.2.2.1 (f.1, .inl f.2)) := pz_one Z.1 a1 a2 0 _ rfl
      have hc1 : H[G.2.1.1 + d]? = some (vp_cell G.2.2.1 (g.1, .inl g.2)) := pz_one Z.1 b1 b2 0 _ rfl
      obtain ⟨-, k0, hk0, cm0, hkk0⟩ := (hK.2 0 _ rfl).1 f.1 (fun j => .int (f.2 j))
      obtain ⟨-, k1, hk1, cm1, hkk1⟩ := (hK.2 0 _ rfl).1 g.1 (fun j => .int (g.2 j))
      obtain ⟨vm', X', step⟩ := X.arraycopy hx hown (hts _ f1) (hts _ (px_in px_w_arr.2.2.2.2.1 rfl)) (hts _ (px_in px_w_arr.2.2.2.2.2.1 rfl)) (hts _ (px_in px_w_arr.2.2.2.2.2.2.1 rfl)) (src := G.2.1.1 + a0) (dst := G.2.1.1 + d) (cs := vp_cell G.2.2.1 (f.1, .inl f.2)) (cd := vp_cell G.2.2.1 (g.1, .inl g.2)) (srcPos := sp) (destPos := dp) (n := n) (by rw [hT]; exact hc0) (by rw [hT]; exact hc1)
        (fun _ h => by cases h) (fun _ h => by cases h) (fun h => by cases h) (fun h => by cases h) hk0 hk1 hkk0 hkk1 (by simp [refKind]) j1 j2 j3
        (by rw [nn sp j1, nn n j3]; show ¬ _ > ((arrV G.2.2.1 f.1 (fun j => .int (f.2 j))).slots.size : Int); rw [arrV_size]; omega)
        (by rw [nn dp j2, nn n j3]; show ¬ _ > ((arrV G.2.2.1 g.1 (fun j => .int (g.2 j))).slots.size : Int); rw [arrV_size]; omega)
        (fun vm₁ _ i hi => by
          have e : (vp_cell G.2.2.1 (f.1, .inl f.2)).slots.getD (sp.toNatClampNeg + i) .null = .int (f.2 (sp.toNatClampNeg + i)) := by
            show (arrV G.2.2.1 f.1 (fun j => .int (f.2 j))).slots.getD _ _ = _
            rw [Array.getD_eq_getD_getElem?, arrV_read _ _ (by omega)]
            rfl
          refine ⟨?_, ?_⟩
          · rw [e]; rfl
          · rw [e]; exact trivial)
        (g := F0 m pc ls (.int n :: .int dp :: .ref (G.2.1.1 + d) :: .int sp :: .ref (G.2.1.1 + a0) :: r.map (pz_v G.2.1.1 G.2.1.2))) rfl (by rw [hml]; exact Z.2.2.1.2.1) (rest := r.map (pz_v G.2.1.1 G.2.1.2)) rfl (by rw [hb]; exact hdg) (Nat.le_trans f2 hfr) (by rw [pz_vsum, e5]; show 2 * 0 + _ + _ ≤ _; omega)
      have e1 : copied (vp_cell G.2.2.1 (f.1, .inl f.2)) (vp_cell G.2.2.1 (g.1, .inl g.2)) sp dp n = vp_cell G.2.2.1 (g.1, .inl (va_cpy f.2 g.2 sp.toNatClampNeg dp.toNatClampNeg n.toNatClampNeg)) := va_copied (fun z => .int z) G.2.2.1 G.2.2.1 f.2 g.2 j4
      rw [e1] at X' step
      have hl : G.2.1.1 + d < H.size := (Array.getElem?_eq_some_iff.mp hc1).1
      have hheap : ((T.setVm vm').setCell (G.2.1.1 + d) (vp_cell G.2.2.1 (g.1, .inl (va_cpy f.2 g.2 sp.toNatClampNeg dp.toNatClampNeg n.toNatClampNeg)))).heap = H.setIfInBounds (G.2.1.1 + d) (vp_cell G.2.2.1 (g.1, .inl (va_cpy f.2 g.2 sp.toNatClampNeg dp.toNatClampNeg n.toNatClampNeg))) := by rw [← hT]; rfl
      have oq : ∀ q : Nat, q ≠ G.2.1.1 + d → (H.setIfInBounds (G.2.1.1 + d) (vp_cell G.2.2.1 (g.1, .inl (va_cpy f.2 g.2 sp.toNatClampNeg dp.toNatClampNeg n.toNatClampNeg))))[q]? = H[q]? := fun q hq => by simp [Array.getElem?_setIfInBounds, Ne.symm hq]
      obtain ⟨t, a1', b1'⟩ := kk (H.setIfInBounds (G.2.1.1 + d) (vp_cell G.2.2.1 (g.1, .inl (va_cpy f.2 g.2 sp.toNatClampNeg dp.toNatClampNeg n.toNatClampNeg)))) ls _ cells slots ⟨Z.1.up b1 (by simp) oq (show (H.setIfInBounds (G.2.1.1 + d) _)[G.2.1.1 + d]? = some _ by simp [Array.getElem?_setIfInBounds, hl]), fun q hq => by
          rw [oq q (by omega)]
          exact Z.2.1 q hq, Z.2.2.1, fun q hq => by
          rcases List.mem_append.mp hq with h | h
          · exact Z.2.2.2 q h
          · obtain ⟨z, -, hz⟩ := List.mem_map.mp h
            rw [← hz]
            exact Nat.le_add_right _ _⟩ hc hs2 _ hheap X'
      exact ⟨t, step t a1', b1'⟩
    · cases hs
  · cases hs
theorem pz_w_max (C : pz_Cx p R s m args meth c G S mi) {i : Nat} (hf : px_xk mi i 1003 = true) (hdg : decode (px_c mi) pc = .ok (.invokestatic i, 3)) (hs : pz_mx (fun x y => if x < y then y else x) pc L st h = some (.inl q)) (hr1 : h.2.1 ≤ n0 + R.cells) (hr2 : h.2.2 ≤ m0 + R.slots) (kk : pz_Go p l e R s m args below meth c Q G mi n0 m0 q) : pz_Go p l e R s m args below meth c Q G mi n0 m0 (pc, L, st, h) := by
  obtain ⟨⟨hx, hb, hml, hown⟩, hts, ⟨hK, hN, hCa, hAO⟩, ⟨hbs, hbz, hX⟩, ⟨hlk, hnm, hrt⟩, hfr, hlo⟩ := C
  obtain ⟨f1, f2, f3⟩ := px_xkk hf
  unfold pz_mx at hs
  split at hs
  · rename_i y x r
    obtain ⟨h3, h4⟩ := pz_ble (y := none) hs
    obtain rfl := pz_gos h4
    intro H ls locs cells slots Z hc hs2
    exact va_mmax hx hb (by rw [hml]; exact Z.2.2.1.2.1.symm) hown (hts _ f1) (hts _ (px_in px_w_arr.2.2.2.2.2.2.2.1 rfl)) (hts _ (px_in px_w_arr.2.2.2.2.2.2.2.2.2.1 rfl)) (hts _ (px_in px_w_arr.2.2.2.2.2.2.2.2.2.2.1 rfl)) (Nat.le_trans f2 hfr) (by rw [pz_vsum]; omega) (by have : n0 + cells = h.2.1 := hc; omega) (by have : m0 + slots = h.2.2 := hs2; omega) hdg (kk H ls locs cells slots Z hc hs2)
  · cases hs
theorem pz_w_min (C : pz_Cx p R s m args meth c G S mi) {i : Nat} (hf : px_xk mi i 1004 = true) (hdg : decode (px_c mi) pc = .ok (.invokestatic i, 3)) (hs : pz_mx (fun x y => if y < x then y else x) pc L st h = some (.inl q)) (hr1 : h.2.1 ≤ n0 + R.cells) (hr2 : h.2.2 ≤ m0 + R.slots) (kk : pz_Go p l e R s m args below meth c Q G mi n0 m0 q) : pz_Go p l e R s m args below meth c Q G mi n0 m0 (pc, L, st, h) := by
  obtain ⟨⟨hx, hb, hml, hown⟩, hts, ⟨hK, hN, hCa, hAO⟩, ⟨hbs, hbz, hX⟩, ⟨hlk, hnm, hrt⟩, hfr, hlo⟩ := C
  obtain ⟨f1, f2, f3⟩ := px_xkk hf
  unfold pz_mx at hs
  split at hs
  · rename_i y x r
    obtain ⟨h3, h4⟩ := pz_ble (y := none) hs
    obtain rfl := pz_gos h4
    intro H ls locs cells slots Z hc hs2
    exact va_mmin hx hb (by rw [hml]; exact Z.2.2.1.2.1.symm) hown (hts _ f1) (hts _ (px_in px_w_arr.2.2.2.2.2.2.2.2.1 rfl)) (hts _ (px_in px_w_arr.2.2.2.2.2.2.2.2.2.1 rfl)) (hts _ (px_in px_w_arr.2.2.2.2.2.2.2.2.2.2.2 rfl)) (Nat.le_trans f2 hfr) (by rw [pz_vsum]; omega) (by have : n0 + cells = h.2.1 := hc; omega) (by have : m0 + slots = h.2.2 := hs2; omega) hdg (kk H ls locs cells slots Z hc hs2)
  · cases hs
theorem pz_w_cast (C : pz_Cx p R s m args meth c G S mi) {i a : Nat} {r : List Value} (hf : (px_il.any fun q => q.1 == px_o mi && q.2.1 == i) = true) (hdg : decode (px_c mi) pc = .ok (.checkcast i, 3)) (hs : ((pz_arr h a).bind fun _ => pz_go (pc + 3) L (.ref a :: r) h) = some (.inl q)) (kk : pz_Go p l e R s m args below meth c Q G mi n0 m0 q) : pz_Go p l e R s m args below meth c Q G mi n0 m0 (pc, L, .ref a :: r, h) := by
  obtain ⟨⟨hx, hb, hml, hown⟩, hts, ⟨hK, hN, hCa, hAO⟩, ⟨hbs, hbz, hX⟩, ⟨hlk, hnm, hrt⟩, hfr, hlo⟩ := C
  obtain ⟨x, h1, h2⟩ := Option.bind_eq_some_iff.mp hs
  obtain rfl := pz_gos h2
  obtain ⟨g1, g2⟩ := pz_arr_spec h1
  simp only [List.any_eq_true, Bool.and_eq_true, beq_iff_eq] at hf
  obtain ⟨y, hy, e1, e2⟩ := hf
  have h7 := List.mem_of_getElem? (of_decide_eq_true (List.all_eq_true.mp px_il_k y hy))
  rw [e1, e2] at h7
  intro H ls locs cells slots Z hc hs2
  exact va_castA hx hb hown (hts _ (px_in h7 rfl)) (pz_one Z.1 g1 g2) 0 rfl (va_nm_int (hK.2 0 _ rfl).2) hdg (kk H ls locs cells slots Z hc hs2)
end PZ3
end
section
section PZ4
variable {p : Program} {l : Launch} {e : Env} {R : Room} {s : State} {m : MethodId} {args : Array Value} {below : List Frame} {meth : Method} {c : Code} {Q : State → Prop} {G : pz_D} {S : (Nat → Int32) × Nat} {mi n0 m0 : Nat} {pc : Nat} {L : pz_L} {st : List Value} {h : pz_H} {q : Nat × (pz_L × (List Value × pz_H))}
theorem pz_U.same {u U : State} (hv : u.vm = U.vm) (h : pz_U G u) : pz_U G U := by
  have ha : u.vm.Alike U.vm := by rw [hv]; exact Vm.Alike.refl _
  refine ⟨va_K.moved ha h.1, fun w hw => ?_, va_Nw.same rfl hv h.2.2.1, va_AO.moved ha h.2.2.2⟩
  have h2 := (List.mem_filter.mp hw).2
  have h3 := h.2.1 w hw
  cases w <;> first | exact va_Nw.same rfl hv h3 | (simp at h2; done)
theorem pz_U.warm {s U : State} (hW : s.WarmedH U.vm) (h : pz_U G s) : pz_U G U := by
  refine ⟨va_K.moved hW.alike h.1, fun w hw => ?_, va_Nw.warmC hW h.2.2.1, va_AO.moved hW.alike h.2.2.2⟩
  have h2 := (List.mem_filter.mp hw).2
  have h3 := h.2.1 w hw
  cases w <;> first | exact va_Nw.warmM hW h3 | (simp at h2; done)
def pz_Pc (G : pz_D) (S : (Nat → Int32) × Nat) (as : List Value) (h : pz_H) : Array Value → State → Prop := va_Pc (as.map (pz_v G.2.1.1 G.2.1.2)) (fun U => pz_R G h U.heap ∧ pz_U G U ∧ pz_B G S U)
def pz_Qc (G : pz_D) (v : Option Value) (h : pz_H) : Array Value → State → Outcome → State → Prop := fun _ st oc t => oc = .returned (v.map (pz_v G.2.1.1 G.2.1.2)) ∧ pz_R G h t.heap ∧ ∀ q : Nat, q < G.2.1.1 → t.heap[q]? = st.heap[q]?
theorem pz_blind (as : List Value) : FrameBlind (pz_Pc G S as h) := by
  intro a U g mk hq
  obtain ⟨h1, h2, h3, h4⟩ := hq
  exact ⟨h1, h2, pz_U.same (u := U) (U := U.calling g mk a) rfl h3, h4.1, h4.2.1, va_X.moved (u := U) (U := U.calling g mk a) (Vm.Alike.refl U.vm) h4.2.2⟩
/-- behind a call -/
theorem pz_back {H : Heap} {ls : Array Slot} {locs : List Loc} {cells slots mc ms : Nat} {rest : List Value} {v : Option Value} {h' : pz_H} {a : Array Value} {st0 : List Value} (Z : pz_Z G s mi h H L ls locs)
    (hr : va_Run p l e R s m args below meth c H locs cells slots mc ms (F0 m pc ls st0) (rest.map (pz_v G.2.1.1 G.2.1.2)) (pz_Qc G v h' a) (fun q => G.2.1.1 ≤ q))
    (hc : n0 + (cells + mc) = h'.2.1) (hs : m0 + (slots + ms) = h'.2.2) (kk : pz_Go p l e R s m args below meth c Q G mi n0 m0 (pc + 3, L, v.toList ++ rest, h')) : W p l e R s m args below meth c H locs cells slots Q (F0 m pc ls st0) := by
  intro T hT X
  obtain ⟨v', st₀, t, T', L2, z0, X', hL, e1, e2, ⟨hv, hR, hk⟩, stp⟩ := hr T hT X
  have hv' : v' = v.map (pz_v G.2.1.1 G.2.1.2) := by cases hv; rfl
  subst hv'
  obtain ⟨t2, a1, b1⟩ := kk T'.heap ls (locs ++ L2) (cells + mc) (slots + ms) ⟨by rw [e1]; exact hR, fun q hq => by rw [e1, hk q hq, z0]; exact Z.2.1 q hq, Z.2.2.1, fun q hq => by
    rcases List.mem_append.mp hq with y | y
    · exact Z.2.2.2 q y
    · exact hL q y⟩ hc hs T' rfl X'
  refine ⟨t2, stp t2 ?_, b1⟩
  have e3 : (v.toList ++ rest).map (pz_v G.2.1.1 G.2.1.2) = (v.map (pz_v G.2.1.1 G.2.1.2)).toList ++ rest.map (pz_v G.2.1.1 G.2.1.2) := by cases v <;> simp
  rw [← e3]
  exact a1
theorem pz_m_call {a n : Nat} (hs : pz_call a n st = some (.inl q)) : False := by
  unfold pz_call at hs
  split at hs <;> cases hs
theorem pz_m_ret {rt : Option FieldType} {v : Value} (hs : pz_ret rt v st = some (.inl q)) : False := by
  unfold pz_ret at hs
  split at hs
  · split at hs <;> cases hs
  · cases hs
def pz_le (h h' : pz_H) : Prop := h.2.1 ≤ h'.2.1 ∧ h.2.2 ≤ h'.2.2
theorem pz_le_rf : pz_le h h := ⟨Nat.le_refl _, Nat.le_refl _⟩
theorem pz_m_g {pc' : Nat} {L' : pz_L} {st' : List Value} (hs : pz_go pc' L' st' h = some (.inl q)) : pz_le h q.2.2.2 := by
  obtain rfl := pz_gos hs
  exact pz_le_rf
theorem pz_m_u {pc' : Nat} {L' : pz_L} {st' : List Value} {i : Nat} {e : pz_E} (hs : pz_go pc' L' st' (pz_up h i e) = some (.inl q)) : pz_le h q.2.2.2 := by
  obtain rfl := pz_gos hs
  exact ⟨Nat.le_refl _, Nat.le_refl _⟩
theorem pz_m_n {pc' : Nat} {L' : pz_L} {st' : List Value} {n : Nat} {e : pz_E} (hs : pz_go pc' L' st' (pz_nw h e n) = some (.inl q)) : pz_le h q.2.2.2 := by
  obtain rfl := pz_gos hs
  exact ⟨Nat.le_succ _, Nat.le_add_right _ _⟩
theorem pz_m_ild (i pc2 : Nat) (hs : pz_ild i pc2 L st h = some (.inl q)) : pz_le h q.2.2.2 := by
  unfold pz_ild at hs
  split at hs
  · exact pz_m_g hs
  · cases hs
theorem pz_m_lld (i pc2 : Nat) (hs : pz_lld i pc2 L st h = some (.inl q)) : pz_le h q.2.2.2 := by
  unfold pz_lld at hs
  split at hs
  · exact pz_m_g hs
  · cases hs
theorem pz_m_ald (i pc2 : Nat) (hs : pz_ald i pc2 L st h = some (.inl q)) : pz_le h q.2.2.2 := by
  unfold pz_ald at hs
  split at hs
  · exact pz_m_g hs
  · exact pz_m_g hs
  · exact pz_m_g hs
  · cases hs
theorem pz_m_ist (i pc2 : Nat) (hs : pz_ist i pc2 L st h = some (.inl q)) : pz_le h q.2.2.2 := by
  unfold pz_ist at hs
  split at hs
  · obtain ⟨_, _, hs⟩ := Option.bind_eq_some_iff.mp hs
    exact pz_m_g hs
  · cases hs
theorem pz_m_lst (i pc2 : Nat) (hs : pz_lst i pc2 L st h = some (.inl q)) : pz_le h q.2.2.2 := by
  unfold pz_lst at hs
  split at hs
  · obtain ⟨_, _, hs⟩ := Option.bind_eq_some_iff.mp hs
    exact pz_m_g hs
  · cases hs
theorem pz_m_ast (i pc2 : Nat) (hs : pz_ast i pc2 L st h = some (.inl q)) : pz_le h q.2.2.2 := by
  unfold pz_ast at hs
  split at hs
  · obtain ⟨_, _, hs⟩ := Option.bind_eq_some_iff.mp hs
    exact pz_m_g hs
  · obtain ⟨_, _, hs⟩ := Option.bind_eq_some_iff.mp hs
    exact pz_m_g hs
  · cases hs
theorem pz_m_i2 (f : Int32 → Int32 → Option Int32) (hs : pz_i2 f pc L st h = some (.inl q)) : pz_le h q.2.2.2 := by
  unfold pz_i2 at hs
  split at hs
  · obtain ⟨_, _, hs⟩ := Option.bind_eq_some_iff.mp hs
    exact pz_m_g hs
  · cases hs
theorem pz_m_l2 (f : Int64 → Int64 → Option Int64) (hs : pz_l2 f pc L st h = some (.inl q)) : pz_le h q.2.2.2 := by
  unfold pz_l2 at hs
  split at hs
  · obtain ⟨_, _, hs⟩ := Option.bind_eq_some_iff.mp hs
    exact pz_m_g hs
  · cases hs
theorem pz_m_jp (off : Int) (hs : pz_jp pc off L st h = some (.inl q)) : pz_le h q.2.2.2 := by
  unfold pz_jp at hs
  obtain ⟨_, _, hs⟩ := Option.bind_eq_some_iff.mp hs
  exact pz_m_g hs
theorem pz_m_br (b : Bool) (off : Int) (hs : pz_br b pc off L st h = some (.inl q)) : pz_le h q.2.2.2 := by
  unfold pz_br at hs
  obtain ⟨_, _, hs⟩ := Option.bind_eq_some_iff.mp hs
  split at hs
  · exact pz_m_g hs
  · exact pz_m_g hs
theorem pz_m_iald (S : (Nat → Int32) × Nat) (hs : pz_iald S pc L st h = some (.inl q)) : pz_le h q.2.2.2 := by
  unfold pz_iald at hs
  split at hs
  · obtain ⟨_, _, hs⟩ := Option.bind_eq_some_iff.mp hs
    split at hs
    · exact pz_m_g hs
    · cases hs
  · split at hs
    · exact pz_m_g hs
    · cases hs
  · cases hs
theorem pz_m_iast  (hs : pz_iast pc L st h = some (.inl q)) : pz_le h q.2.2.2 := by
  unfold pz_iast at hs
  split at hs
  · obtain ⟨_, _, hs⟩ := Option.bind_eq_some_iff.mp hs
    split at hs
    · exact pz_m_u hs
    · cases hs
  · cases hs
theorem pz_m_aald  (hs : pz_aald pc L st h = some (.inl q)) : pz_le h q.2.2.2 := by
  unfold pz_aald at hs
  split at hs
  · obtain ⟨_, _, hs⟩ := Option.bind_eq_some_iff.mp hs
    split at hs
    · exact pz_m_g hs
    · cases hs
  · cases hs
theorem pz_m_aast  (hs : pz_aast pc L st h = some (.inl q)) : pz_le h q.2.2.2 := by
  unfold pz_aast at hs
  split at hs
  · obtain ⟨_, _, hs⟩ := Option.bind_eq_some_iff.mp hs
    split at hs
    · exact pz_m_u hs
    · cases hs
  · obtain ⟨_, _, hs⟩ := Option.bind_eq_some_iff.mp hs
    split at hs
    · exact pz_m_u hs
    · cases hs
  · cases hs
theorem pz_m_alen (S : (Nat → Int32) × Nat) (hs : pz_alen S pc L st h = some (.inl q)) : pz_le h q.2.2.2 := by
  unfold pz_alen at hs
  split at hs
  · obtain ⟨_, _, hs⟩ := Option.bind_eq_some_iff.mp hs
    exact pz_m_g hs
  · exact pz_m_g hs
  · cases hs
theorem pz_m_getf (a b : Nat) (hs : pz_getf a b pc L st h = some (.inl q)) : pz_le h q.2.2.2 := by
  unfold pz_getf at hs
  split at hs
  · obtain ⟨_, _, hs⟩ := Option.bind_eq_some_iff.mp hs
    obtain ⟨_, _, hs⟩ := Option.bind_eq_some_iff.mp hs
    exact pz_m_g hs
  · cases hs
theorem pz_m_putf (a b : Nat) (hs : pz_putf a b pc L st h = some (.inl q)) : pz_le h q.2.2.2 := by
  unfold pz_putf at hs
  split at hs
  · obtain ⟨_, _, hs⟩ := Option.bind_eq_some_iff.mp hs
    split at hs
    · exact pz_m_u hs
    · cases hs
  · cases hs
theorem pz_m_newa  (hs : pz_newa pc L st h = some (.inl q)) : pz_le h q.2.2.2 := by
  unfold pz_newa at hs
  split at hs
  · split at hs
    · exact pz_m_n hs
    · cases hs
  · cases hs
theorem pz_m_newq  (hs : pz_newq pc L st h = some (.inl q)) : pz_le h q.2.2.2 := by
  unfold pz_newq at hs
  split at hs
  · split at hs
    · exact pz_m_n hs
    · cases hs
  · cases hs
theorem pz_m_cpy  (hs : pz_cpy pc L st h = some (.inl q)) : pz_le h q.2.2.2 := by
  unfold pz_cpy at hs
  split at hs
  · obtain ⟨_, _, hs⟩ := Option.bind_eq_some_iff.mp hs
    obtain ⟨_, _, hs⟩ := Option.bind_eq_some_iff.mp hs
    split at hs
    · exact pz_m_u hs
    · cases hs
  · cases hs
theorem pz_m_mx (f : Int32 → Int32 → Int32) (hs : pz_mx f pc L st h = some (.inl q)) : pz_le h q.2.2.2 := by
  unfold pz_mx at hs
  split at hs
  · split at hs
    · exact pz_m_g hs
    · cases hs
  · cases hs
theorem pz_m_isp (a b : Nat) (hs : pz_isp a b pc L st h = some (.inl q)) : pz_le h q.2.2.2 := by
  unfold pz_isp at hs
  split at hs
  · split at hs
    · split at hs
      · exact pz_m_g hs
      · cases hs
    · cases hs
  · split at hs
    · exact (pz_m_call hs).elim
    · cases hs
theorem pz_m_ivi (a b : Nat) (hs : pz_ivi a b pc L st h = some (.inl q)) : pz_le h q.2.2.2 := by
  unfold pz_ivi at hs
  split at hs
  · split at hs
    · obtain ⟨_, _, hs⟩ := Option.bind_eq_some_iff.mp hs
      split at hs
      · exact pz_m_n hs
      · cases hs
    · cases hs
  · split at hs
    · split at hs
      · exact (pz_m_call hs).elim
      · cases hs
    · cases hs
theorem pz_m_iss (a b : Nat) (hs : pz_ist_ a b pc L st h = some (.inl q)) : pz_le h q.2.2.2 := by
  unfold pz_ist_ at hs
  split at hs
  · exact pz_m_cpy hs
  · split at hs
    · exact pz_m_mx _ hs
    · split at hs
      · exact pz_m_mx _ hs
      · exact (pz_m_call hs).elim
theorem pz_m_step {rt : Option FieldType} {k : px_K} (hs : pz_step S rt k pc L st h = some (.inl q)) : pz_le h q.2.2.2 := by
  unfold pz_step at hs
  split at hs
  · exact pz_m_g hs
  · exact pz_m_g hs
  · exact pz_m_g hs
  · exact pz_m_g hs
  · exact pz_m_g hs
  · exact pz_m_g hs
  · exact pz_m_g hs
  · exact pz_m_ild _ _ hs
  · exact pz_m_ild _ _ hs
  · exact pz_m_lld _ _ hs
  · exact pz_m_lld _ _ hs
  · exact pz_m_ald _ _ hs
  · exact pz_m_ald _ _ hs
  · exact pz_m_ist _ _ hs
  · exact pz_m_ist _ _ hs
  · exact pz_m_lst _ _ hs
  · exact pz_m_lst _ _ hs
  · exact pz_m_ast _ _ hs
  · exact pz_m_ast _ _ hs
  · split at hs
    · obtain ⟨L2, h1, hs⟩ := Option.bind_eq_some_iff.mp hs
      exact pz_m_g hs
    · cases hs
  · exact pz_m_i2 _ hs
  · exact pz_m_i2 _ hs
  · exact pz_m_i2 _ hs
  · exact pz_m_i2 _ hs
  · exact pz_m_i2 _ hs
  · exact pz_m_i2 _ hs
  · exact pz_m_i2 _ hs
  · exact pz_m_i2 _ hs
  · exact pz_m_i2 _ hs
  · exact pz_m_l2 _ hs
  · exact pz_m_l2 _ hs
  · exact pz_m_l2 _ hs
  · exact pz_m_l2 _ hs
  · exact pz_m_l2 _ hs
  · split at hs
    · exact pz_m_g hs
    · cases hs
  · split at hs
    · exact pz_m_g hs
    · cases hs
  · split at hs
    · exact pz_m_g hs
    · cases hs
  · split at hs
    · split at hs
      · exact pz_m_g hs
      · cases hs
    · cases hs
  · split at hs
    · split at hs
      · exact pz_m_g hs
      · cases hs
    · cases hs
  · exact pz_m_jp _ hs
  · split at hs
    · exact pz_m_br _ _ hs
    · cases hs
  · split at hs
    · exact pz_m_br _ _ hs
    · cases hs
  · split at hs
    · exact pz_m_jp _ hs
    · exact pz_m_g hs
    · cases hs
  · split at hs
    · split at hs
      · exact pz_m_jp _ hs
      · cases hs
    · cases hs
  · split at hs
    · split at hs
      · exact pz_m_jp _ hs
      · obtain ⟨o, h1, hs⟩ := Option.bind_eq_some_iff.mp hs
        exact pz_m_jp _ hs
    · cases hs
  · exact pz_m_iald _ hs
  · exact pz_m_iast hs
  · exact pz_m_aald hs
  · exact pz_m_aast hs
  · exact pz_m_alen _ hs
  · exact pz_m_getf _ _ hs
  · exact pz_m_putf _ _ hs
  · exact pz_m_n hs
  · exact pz_m_newa hs
  · exact pz_m_newq hs
  · split at hs
    · obtain ⟨o, h1, hs⟩ := Option.bind_eq_some_iff.mp hs
      exact pz_m_g hs
    · cases hs
  · exact pz_m_isp _ _ hs
  · exact pz_m_ivi _ _ hs
  · exact pz_m_iss _ _ hs
  · split at hs
    · exact (pz_m_ret hs).elim
    · cases hs
  · split at hs
    · exact (pz_m_ret hs).elim
    · cases hs
  · split at hs
    · exact (pz_m_ret hs).elim
    · exact (pz_m_ret hs).elim
    · cases hs
  · split at hs <;> cases hs
  · cases hs
theorem pz_m_run (S : (Nat → Int32) × Nat) : ∀ (n mi pc : Nat) (L : pz_L) (st : List Value) (h : pz_H) (v : Option Value) (h' : pz_H), pz_run S n mi pc L st h = some (v, h') → pz_le h h' := by
  intro n
  induction n with
  | zero => intro mi pc L st h v h' hr; cases hr
  | succ n ih =>
    intro mi pc L st h v h' hr
    unfold pz_run at hr
    split at hr
    · cases hr
    · rename_i k hk
      split at hr
      · cases hr
      · rename_i q hs
        have h1 := pz_m_step hs
        have h2 := ih _ _ _ _ _ _ _ hr
        exact ⟨Nat.le_trans h1.1 h2.1, Nat.le_trans h1.2 h2.2⟩
      · cases hr
        exact pz_le_rf
      · rename_i q hs
        split at hr
        · cases hr
        · rename_i u hu
          have h1 := ih _ _ _ _ _ _ _ hu
          have h2 := ih _ _ _ _ _ _ _ hr
          exact ⟨Nat.le_trans h1.1 h2.1, Nat.le_trans h1.2 h2.2⟩
end PZ4
end
section
section PZ5
variable {p : Program} {l : Launch} {e : Env} {R : Room} {s : State} {m : MethodId} {args : Array Value} {below : List Frame} {meth : Method} {c : Code} {Q : State → Prop} {G : pz_D} {S : (Nat → Int32) × Nat} {mi n0 m0 : Nat} {pc : Nat} {L : pz_L} {st : List Value} {h : pz_H} {q : Nat × (pz_L × (List Value × pz_H))}
theorem pz_nf {pc' : Nat} {L' : pz_L} {st' : List Value} {h' : pz_H} {y : Option Value ⊕ (Nat × (List Value × List Value))} {P : Prop} (hs : pz_go pc' L' st' h' = some (.inr y)) : P := by
  unfold pz_go at hs
  cases hs
theorem pz_n_ild (i pc2 : Nat) {y : Option Value ⊕ (Nat × (List Value × List Value))} (hs : pz_ild i pc2 L st h = some (.inr y)) : False := by
  unfold pz_ild at hs
  split at hs
  · exact pz_nf hs
  · cases hs
theorem pz_n_lld (i pc2 : Nat) {y : Option Value ⊕ (Nat × (List Value × List Value))} (hs : pz_lld i pc2 L st h = some (.inr y)) : False := by
  unfold pz_lld at hs
  split at hs
  · exact pz_nf hs
  · cases hs
theorem pz_n_ald (i pc2 : Nat) {y : Option Value ⊕ (Nat × (List Value × List Value))} (hs : pz_ald i pc2 L st h = some (.inr y)) : False := by
  unfold pz_ald at hs
  split at hs
  · exact pz_nf hs
  · exact pz_nf hs
  · exact pz_nf hs
  · cases hs
theorem pz_n_ist (i pc2 : Nat) {y : Option Value ⊕ (Nat × (List Value × List Value))} (hs : pz_ist i pc2 L st h = some (.inr y)) : False := by
  unfold pz_ist at hs
  split at hs
  · obtain ⟨_, _, hs⟩ := Option.bind_eq_some_iff.mp hs
    exact pz_nf hs
  · cases hs
theorem pz_n_lst (i pc2 : Nat) {y : Option Value ⊕ (Nat × (List Value × List Value))} (hs : pz_lst i pc2 L st h = some (.inr y)) : False := by
  unfold pz_lst at hs
  split at hs
  · obtain ⟨_, _, hs⟩ := Option.bind_eq_some_iff.mp hs
    exact pz_nf hs
  · cases hs
theorem pz_n_ast (i pc2 : Nat) {y : Option Value ⊕ (Nat × (List Value × List Value))} (hs : pz_ast i pc2 L st h = some (.inr y)) : False := by
  unfold pz_ast at hs
  split at hs
  · obtain ⟨_, _, hs⟩ := Option.bind_eq_some_iff.mp hs
    exact pz_nf hs
  · obtain ⟨_, _, hs⟩ := Option.bind_eq_some_iff.mp hs
    exact pz_nf hs
  · cases hs
theorem pz_n_i2 (f : Int32 → Int32 → Option Int32) {y : Option Value ⊕ (Nat × (List Value × List Value))} (hs : pz_i2 f pc L st h = some (.inr y)) : False := by
  unfold pz_i2 at hs
  split at hs
  · obtain ⟨_, _, hs⟩ := Option.bind_eq_some_iff.mp hs
    exact pz_nf hs
  · cases hs
theorem pz_n_l2 (f : Int64 → Int64 → Option Int64) {y : Option Value ⊕ (Nat × (List Value × List Value))} (hs : pz_l2 f pc L st h = some (.inr y)) : False := by
  unfold pz_l2 at hs
  split at hs
  · obtain ⟨_, _, hs⟩ := Option.bind_eq_some_iff.mp hs
    exact pz_nf hs
  · cases hs
theorem pz_n_jp (off : Int) {y : Option Value ⊕ (Nat × (List Value × List Value))} (hs : pz_jp pc off L st h = some (.inr y)) : False := by
  unfold pz_jp at hs
  obtain ⟨_, _, hs⟩ := Option.bind_eq_some_iff.mp hs
  exact pz_nf hs
theorem pz_n_br (b : Bool) (off : Int) {y : Option Value ⊕ (Nat × (List Value × List Value))} (hs : pz_br b pc off L st h = some (.inr y)) : False := by
  unfold pz_br at hs
  obtain ⟨_, _, hs⟩ := Option.bind_eq_some_iff.mp hs
  split at hs
  · exact pz_nf hs
  · exact pz_nf hs
theorem pz_n_iald (S : (Nat → Int32) × Nat) {y : Option Value ⊕ (Nat × (List Value × List Value))} (hs : pz_iald S pc L st h = some (.inr y)) : False := by
  unfold pz_iald at hs
  split at hs
  · obtain ⟨_, _, hs⟩ := Option.bind_eq_some_iff.mp hs
    split at hs
    · exact pz_nf hs
    · cases hs
  · split at hs
    · exact pz_nf hs
    · cases hs
  · cases hs
theorem pz_n_iast  {y : Option Value ⊕ (Nat × (List Value × List Value))} (hs : pz_iast pc L st h = some (.inr y)) : False := by
  unfold pz_iast at hs
  split at hs
  · obtain ⟨_, _, hs⟩ := Option.bind_eq_some_iff.mp hs
    split at hs
    · exact pz_nf hs
    · cases hs
  · cases hs
theorem pz_n_aald  {y : Option Value ⊕ (Nat × (List Value × List Value))} (hs : pz_aald pc L st h = some (.inr y)) : False := by
  unfold pz_aald at hs
  split at hs
  · obtain ⟨_, _, hs⟩ := Option.bind_eq_some_iff.mp hs
    split at hs
    · exact pz_nf hs
    · cases hs
  · cases hs
theorem pz_n_aast  {y : Option Value ⊕ (Nat × (List Value × List Value))} (hs : pz_aast pc L st h = some (.inr y)) : False := by
  unfold pz_aast at hs
  split at hs
  · obtain ⟨_, _, hs⟩ := Option.bind_eq_some_iff.mp hs
    split at hs
    · exact pz_nf hs
    · cases hs
  · obtain ⟨_, _, hs⟩ := Option.bind_eq_some_iff.mp hs
    split at hs
    · exact pz_nf hs
    · cases hs
  · cases hs
theorem pz_n_alen (S : (Nat → Int32) × Nat) {y : Option Value ⊕ (Nat × (List Value × List Value))} (hs : pz_alen S pc L st h = some (.inr y)) : False := by
  unfold pz_alen at hs
  split at hs
  · obtain ⟨_, _, hs⟩ := Option.bind_eq_some_iff.mp hs
    exact pz_nf hs
  · exact pz_nf hs
  · cases hs
theorem pz_n_getf (a b : Nat) {y : Option Value ⊕ (Nat × (List Value × List Value))} (hs : pz_getf a b pc L st h = some (.inr y)) : False := by
  unfold pz_getf at hs
  split at hs
  · obtain ⟨_, _, hs⟩ := Option.bind_eq_some_iff.mp hs
    obtain ⟨_, _, hs⟩ := Option.bind_eq_some_iff.mp hs
    exact pz_nf hs
  · cases hs
theorem pz_n_putf (a b : Nat) {y : Option Value ⊕ (Nat × (List Value × List Value))} (hs : pz_putf a b pc L st h = some (.inr y)) : False := by
  unfold pz_putf at hs
  split at hs
  · obtain ⟨_, _, hs⟩ := Option.bind_eq_some_iff.mp hs
    split at hs
    · exact pz_nf hs
    · cases hs
  · cases hs
theorem pz_n_newa  {y : Option Value ⊕ (Nat × (List Value × List Value))} (hs : pz_newa pc L st h = some (.inr y)) : False := by
  unfold pz_newa at hs
  split at hs
  · split at hs
    · exact pz_nf hs
    · cases hs
  · cases hs
theorem pz_n_newq  {y : Option Value ⊕ (Nat × (List Value × List Value))} (hs : pz_newq pc L st h = some (.inr y)) : False := by
  unfold pz_newq at hs
  split at hs
  · split at hs
    · exact pz_nf hs
    · cases hs
  · cases hs
theorem pz_n_cpy  {y : Option Value ⊕ (Nat × (List Value × List Value))} (hs : pz_cpy pc L st h = some (.inr y)) : False := by
  unfold pz_cpy at hs
  split at hs
  · obtain ⟨_, _, hs⟩ := Option.bind_eq_some_iff.mp hs
    obtain ⟨_, _, hs⟩ := Option.bind_eq_some_iff.mp hs
    split at hs
    · exact pz_nf hs
    · cases hs
  · cases hs
theorem pz_n_mx (f : Int32 → Int32 → Int32) {y : Option Value ⊕ (Nat × (List Value × List Value))} (hs : pz_mx f pc L st h = some (.inr y)) : False := by
  unfold pz_mx at hs
  split at hs
  · split at hs
    · exact pz_nf hs
    · cases hs
  · cases hs
theorem pz_n_ret {rt : Option FieldType} {v : Value} {y : Nat × (List Value × List Value)} (hs : pz_ret rt v st = some (.inr (.inr y))) : False := by
  unfold pz_ret at hs
  split at hs
  · split at hs <;> cases hs
  · cases hs
theorem pz_n_step {rt : Option FieldType} {k : px_K} {y : Nat × (List Value × List Value)} (hs : pz_step S rt k pc L st h = some (.inr (.inr y))) : (∃ i, k.1 = .invokespecial i ∧ pz_isp k.2.2.1 k.2.2.2.1 pc L st h = some (.inr (.inr y))) ∨ (∃ i, k.1 = .invokevirtual i ∧ pz_ivi k.2.2.1 k.2.2.2.1 pc L st h = some (.inr (.inr y))) ∨ (∃ i, k.1 = .invokestatic i ∧ pz_ist_ k.2.2.1 k.2.2.2.1 pc L st h = some (.inr (.inr y))) := by
  unfold pz_step at hs
  split at hs
  · exact pz_nf hs
  · exact pz_nf hs
  · exact pz_nf hs
  · exact pz_nf hs
  · exact pz_nf hs
  · exact pz_nf hs
  · exact pz_nf hs
  · exact (pz_n_ild _ _ hs).elim
  · exact (pz_n_ild _ _ hs).elim
  · exact (pz_n_lld _ _ hs).elim
  · exact (pz_n_lld _ _ hs).elim
  · exact (pz_n_ald _ _ hs).elim
  · exact (pz_n_ald _ _ hs).elim
  · exact (pz_n_ist _ _ hs).elim
  · exact (pz_n_ist _ _ hs).elim
  · exact (pz_n_lst _ _ hs).elim
  · exact (pz_n_lst _ _ hs).elim
  · exact (pz_n_ast _ _ hs).elim
  · exact (pz_n_ast _ _ hs).elim
  · split at hs
    · obtain ⟨L2, h1, hs⟩ := Option.bind_eq_some_iff.mp hs
      exact pz_nf hs
    · cases hs
  · exact (pz_n_i2 _ hs).elim
  · exact (pz_n_i2 _ hs).elim
  · exact (pz_n_i2 _ hs).elim
  · exact (pz_n_i2 _ hs).elim
  · exact (pz_n_i2 _ hs).elim
  · exact (pz_n_i2 _ hs).elim
  · exact (pz_n_i2 _ hs).elim
  · exact (pz_n_i2 _ hs).elim
  · exact (pz_n_i2 _ hs).elim
  · exact (pz_n_l2 _ hs).elim
  · exact (pz_n_l2 _ hs).elim
  · exact (pz_n_l2 _ hs).elim
  · exact (pz_n_l2 _ hs).elim
  · exact (pz_n_l2 _ hs).elim
  · split at hs
    · exact pz_nf hs
    · cases hs
  · split at hs
    · exact pz_nf hs
    · cases hs
  · split at hs
    · exact pz_nf hs
    · cases hs
  · split at hs
    · split at hs
      · exact pz_nf hs
      · cases hs
    · cases hs
  · split at hs
    · split at hs
      · exact pz_nf hs
      · cases hs
    · cases hs
  · exact (pz_n_jp _ hs).elim
  · split at hs
    · exact (pz_n_br _ _ hs).elim
    · cases hs
  · split at hs
    · exact (pz_n_br _ _ hs).elim
    · cases hs
  · split at hs
    · exact (pz_n_jp _ hs).elim
    · exact pz_nf hs
    · cases hs
  · split at hs
    · split at hs
      · exact (pz_n_jp _ hs).elim
      · cases hs
    · cases hs
  · split at hs
    · split at hs
      · exact (pz_n_jp _ hs).elim
      · obtain ⟨o, h1, hs⟩ := Option.bind_eq_some_iff.mp hs
        exact (pz_n_jp _ hs).elim
    · cases hs
  · exact (pz_n_iald _ hs).elim
  · exact (pz_n_iast hs).elim
  · exact (pz_n_aald hs).elim
  · exact (pz_n_aast hs).elim
  · exact (pz_n_alen _ hs).elim
  · exact (pz_n_getf _ _ hs).elim
  · exact (pz_n_putf _ _ hs).elim
  · exact pz_nf hs
  · exact (pz_n_newa hs).elim
  · exact (pz_n_newq hs).elim
  · split at hs
    · obtain ⟨o, h1, hs⟩ := Option.bind_eq_some_iff.mp hs
      exact pz_nf hs
    · cases hs
  · rename_i i hk
    exact Or.inl ⟨i, hk, hs⟩
  · rename_i i hk
    exact Or.inr (Or.inl ⟨i, hk, hs⟩)
  · rename_i i hk
    exact Or.inr (Or.inr ⟨i, hk, hs⟩)
  · split at hs
    · exact (pz_n_ret hs).elim
    · cases hs
  · split at hs
    · exact (pz_n_ret hs).elim
    · cases hs
  · split at hs
    · exact (pz_n_ret hs).elim
    · exact (pz_n_ret hs).elim
    · cases hs
  · split at hs <;> cases hs
  · cases hs
theorem px_kk {m i z t : Nat} {w : Int} (h : (px_kl.any fun q => q.1 == px_o m && q.2.1 == i && decide (q.2.2.1 = w) && q.2.2.2.1 == t) = true) : (t = 1 → Cond.constantLong (px_R (px_o m)) i (Int64.ofInt w) ∈ px_gt) ∧ (t = 0 → Cond.constant (px_R (px_o m)) i (Int32.ofInt w) ∈ px_gt) := by
  simp only [List.any_eq_true, Bool.and_eq_true, beq_iff_eq, decide_eq_true_eq] at h
  obtain ⟨q, hq, ⟨⟨h1, h2⟩, h3⟩, h4⟩ := h
  have h7 := List.mem_of_getElem? (of_decide_eq_true (List.all_eq_true.mp px_kl_k q hq))
  rw [h1, h2, h3, h4] at h7
  refine ⟨fun e => ?_, fun e => ?_⟩
  · rw [if_pos e] at h7; exact px_in h7 rfl
  · rw [if_neg (by omega)] at h7; exact px_in h7 rfl
set_option maxHeartbeats 4000000 in
theorem pz_sim1 (C : pz_Cx p R s m args meth c G S mi) {k : px_K} (hk : px_at mi pc = some k) (hs : pz_step S (px_rt mi) k pc L st h = some (.inl q)) (hr1 : q.2.2.2.2.1 ≤ n0 + R.cells) (hr2 : q.2.2.2.2.2 ≤ m0 + R.slots) (kk : pz_Go p l e R s m args below meth c Q G mi n0 m0 q) : pz_Go p l e R s m args below meth c Q G mi n0 m0 (pc, L, st, h) := by
  have hdg := px_dec hk
  have hln := px_len hk
  have hlk := px_lnk hk
  have hle := pz_m_step hs
  obtain ⟨⟨hx, hb, hml, hown⟩, hts, ⟨hK, hN, hCa, hAO⟩, ⟨hbs, hbz, hX⟩, ⟨hlk2, hnm, hrt⟩, hfr, hlo⟩ := id C
  obtain ⟨i, len, a, b, z⟩ := k
  unfold pz_step at hs
  dsimp only at hs hdg
  cases i with
  | iconst n =>
    have hl : len = 1 := by simpa [pz_ln] using hln
    subst hl
    obtain rfl := pz_gos hs
    intro H ls locs cells slots Z hc hs2
    exact lv_iconst hx hb hdg rfl (kk H ls locs cells slots Z hc hs2)
  | bipush n =>
    have hl : len = 2 := by simpa [pz_ln] using hln
    subst hl
    obtain rfl := pz_gos hs
    intro H ls locs cells slots Z hc hs2
    exact lv_bipush hx hb hdg rfl (kk H ls locs cells slots Z hc hs2)
  | sipush n =>
    have hl : len = 3 := by simpa [pz_ln] using hln
    subst hl
    obtain rfl := pz_gos hs
    intro H ls locs cells slots Z hc hs2
    exact lv_sipush hx hb hdg rfl (kk H ls locs cells slots Z hc hs2)
  | lconst n =>
    have hl : len = 1 := by simpa [pz_ln] using hln
    subst hl
    obtain rfl := pz_gos hs
    intro H ls locs cells slots Z hc hs2
    exact lv_lconst hx hb hdg rfl (kk H ls locs cells slots Z hc hs2)
  | ldc_w i =>
    have hl : len = 3 := by simpa [pz_ln] using hln
    subst hl
    obtain rfl := pz_gos hs
    intro H ls locs cells slots Z hc hs2
    exact lv_ldcw hx hb hown (hts _ ((px_kk (z := 0) hlk).2 rfl)) hdg (kk H ls locs cells slots Z hc hs2)
  | ldc2_w i =>
    have hl : len = 3 := by simpa [pz_ln] using hln
    subst hl
    obtain rfl := pz_gos hs
    intro H ls locs cells slots Z hc hs2
    exact lv_ldc2 hx hb hown (hts _ ((px_kk (z := 0) hlk).1 rfl)) hdg (kk H ls locs cells slots Z hc hs2)
  | aconst_null =>
    have hl : len = 1 := by simpa [pz_ln] using hln
    subst hl
    obtain rfl := pz_gos hs
    intro H ls locs cells slots Z hc hs2
    exact lv_null hx hb hdg (kk H ls locs cells slots Z hc hs2)
  | iload_n i =>
    have hl : len = 1 := by simpa [pz_ln] using hln
    subst hl
    exact pz_w_ild0 C hdg hs kk
  | iload i =>
    have hl : len = 2 := by simpa [pz_ln] using hln
    subst hl
    exact pz_w_ild1 C hdg hs kk
  | lload_n i =>
    have hl : len = 1 := by simpa [pz_ln] using hln
    subst hl
    exact pz_w_lld0 C hdg hs kk
  | lload i =>
    have hl : len = 2 := by simpa [pz_ln] using hln
    subst hl
    exact pz_w_lld1 C hdg hs kk
  | aload_n i =>
    have hl : len = 1 := by simpa [pz_ln] using hln
    subst hl
    exact pz_w_ald0 C hdg hs kk
  | aload i =>
    have hl : len = 2 := by simpa [pz_ln] using hln
    subst hl
    exact pz_w_ald1 C hdg hs kk
  | istore_n i =>
    have hl : len = 1 := by simpa [pz_ln] using hln
    subst hl
    exact pz_w_ist0 C hdg hs kk
  | istore i =>
    have hl : len = 2 := by simpa [pz_ln] using hln
    subst hl
    exact pz_w_ist1 C hdg hs kk
  | lstore_n i =>
    have hl : len = 1 := by simpa [pz_ln] using hln
    subst hl
    exact pz_w_lst0 C hdg hs kk
  | lstore i =>
    have hl : len = 2 := by simpa [pz_ln] using hln
    subst hl
    exact pz_w_lst1 C hdg hs kk
  | astore_n i =>
    have hl : len = 1 := by simpa [pz_ln] using hln
    subst hl
    exact pz_w_ast0 C hdg hs kk
  | astore i =>
    have hl : len = 2 := by simpa [pz_ln] using hln
    subst hl
    exact pz_w_ast1 C hdg hs kk
  | iinc i n =>
    have hl : len = 3 := by simpa [pz_ln] using hln
    subst hl
    dsimp only at hs
    split at hs
    · rename_i x hg
      obtain ⟨L1, h1, hs⟩ := Option.bind_eq_some_iff.mp hs
      exact pz_w_iinc C hdg hg h1 (pz_gos hs) kk
    · cases hs
  | iadd =>
    have hl : len = 1 := by simpa [pz_ln] using hln
    subst hl
    exact pz_w_iadd C hdg hs kk
  | isub =>
    have hl : len = 1 := by simpa [pz_ln] using hln
    subst hl
    exact pz_w_isub C hdg hs kk
  | imul =>
    have hl : len = 1 := by simpa [pz_ln] using hln
    subst hl
    exact pz_w_imul C hdg hs kk
  | iand =>
    have hl : len = 1 := by simpa [pz_ln] using hln
    subst hl
    exact pz_w_iand C hdg hs kk
  | ior =>
    have hl : len = 1 := by simpa [pz_ln] using hln
    subst hl
    exact pz_w_ior C hdg hs kk
  | ishl =>
    have hl : len = 1 := by simpa [pz_ln] using hln
    subst hl
    exact pz_w_ishl C hdg hs kk
  | ishr =>
    have hl : len = 1 := by simpa [pz_ln] using hln
    subst hl
    exact pz_w_ishr C hdg hs kk
  | idiv =>
    have hl : len = 1 := by simpa [pz_ln] using hln
    subst hl
    exact pz_w_idiv C hdg hs kk
  | irem =>
    have hl : len = 1 := by simpa [pz_ln] using hln
    subst hl
    exact pz_w_irem C hdg hs kk
  | ladd =>
    have hl : len = 1 := by simpa [pz_ln] using hln
    subst hl
    exact pz_w_ladd C hdg hs kk
  | lmul =>
    have hl : len = 1 := by simpa [pz_ln] using hln
    subst hl
    exact pz_w_lmul C hdg hs kk
  | land =>
    have hl : len = 1 := by simpa [pz_ln] using hln
    subst hl
    exact pz_w_land C hdg hs kk
  | ldiv =>
    have hl : len = 1 := by simpa [pz_ln] using hln
    subst hl
    exact pz_w_ldiv C hdg hs kk
  | lrem =>
    have hl : len = 1 := by simpa [pz_ln] using hln
    subst hl
    exact pz_w_lrem C hdg hs kk
  | lcmp =>
    have hl : len = 1 := by simpa [pz_ln] using hln
    subst hl
    dsimp only at hs
    split at hs
    · obtain rfl := pz_gos hs
      intro H ls locs cells slots Z hc hs2
      exact W.lcmp hx hb hdg (kk H ls locs cells slots Z hc hs2)
    · cases hs
  | i2l =>
    have hl : len = 1 := by simpa [pz_ln] using hln
    subst hl
    dsimp only at hs
    split at hs
    · obtain rfl := pz_gos hs
      intro H ls locs cells slots Z hc hs2
      exact lv_i2l hx hb hdg rfl (kk H ls locs cells slots Z hc hs2)
    · cases hs
  | l2i =>
    have hl : len = 1 := by simpa [pz_ln] using hln
    subst hl
    dsimp only at hs
    split at hs
    · obtain rfl := pz_gos hs
      intro H ls locs cells slots Z hc hs2
      exact lv_l2i hx hb hdg rfl (kk H ls locs cells slots Z hc hs2)
    · cases hs
  | dup =>
    have hl : len = 1 := by simpa [pz_ln] using hln
    subst hl
    dsimp only at hs
    split at hs
    · split at hs
      · rename_i hv
        obtain rfl := pz_gos hs
        intro H ls locs cells slots Z hc hs2
        exact lv_dup hx hb hdg (by rw [pz_vc]; exact hv) (kk H ls locs cells slots Z hc hs2)
      · cases hs
    · cases hs
  | dup2 =>
    have hl : len = 1 := by simpa [pz_ln] using hln
    subst hl
    dsimp only at hs
    split at hs
    · split at hs
      · rename_i hv
        obtain rfl := pz_gos hs
        intro H ls locs cells slots Z hc hs2
        exact lv_dup2_11 hx hb hdg (by rw [pz_vc]; exact hv.1) (by rw [pz_vc]; exact hv.2) (kk H ls locs cells slots Z hc hs2)
      · cases hs
    · cases hs
  | goto off =>
    have hl : len = 3 := by simpa [pz_ln] using hln
    subst hl
    exact pz_w_goto C hdg hs kk
  | ifCond cc off =>
    have hl : len = 3 := by simpa [pz_ln] using hln
    subst hl
    dsimp only at hs
    split at hs
    · cases cc with
      | eq => exact pz_w_if_eq C hdg hs kk
      | ne => exact pz_w_if_ne C hdg hs kk
      | lt => exact pz_w_if_lt C hdg hs kk
      | ge => exact pz_w_if_ge C hdg hs kk
      | gt => exact pz_w_if_gt C hdg hs kk
      | le => exact pz_w_if_le C hdg hs kk
    · cases hs
  | if_icmp cc off =>
    have hl : len = 3 := by simpa [pz_ln] using hln
    subst hl
    dsimp only at hs
    split at hs
    · cases cc with
      | eq => exact pz_w_icmp_eq C hdg hs kk
      | ne => exact pz_w_icmp_ne C hdg hs kk
      | lt => exact pz_w_icmp_lt C hdg hs kk
      | ge => exact pz_w_icmp_ge C hdg hs kk
      | gt => exact pz_w_icmp_gt C hdg hs kk
      | le => exact pz_w_icmp_le C hdg hs kk
    · cases hs
  | ifnonnull off =>
    have hl : len = 3 := by simpa [pz_ln] using hln
    subst hl
    dsimp only at hs
    split at hs
    · obtain ⟨t, ht, rfl⟩ := pz_jps hs
      intro H ls locs cells slots Z hc hs2
      exact lv_ifnonnull hx hb hdg ht (kk H ls locs cells slots Z hc hs2)
    · obtain rfl := pz_gos hs
      intro H ls locs cells slots Z hc hs2
      exact lv_ifnonnullN hx hb hdg (kk H ls locs cells slots Z hc hs2)
    · cases hs
  | lookupswitch d ps =>
    dsimp only at hs
    split at hs
    · split at hs
      · rename_i hp
        obtain ⟨t, ht, rfl⟩ := pz_jps hs
        intro H ls locs cells slots Z hc hs2
        exact lv_lookup hx hb hdg hp rfl ht (kk H ls locs cells slots Z hc hs2)
      · cases hs
    · cases hs
  | tableswitch d lo hi offs =>
    dsimp only at hs
    split at hs
    · split at hs
      · rename_i hp
        obtain ⟨t, ht, rfl⟩ := pz_jps hs
        intro H ls locs cells slots Z hc hs2
        exact lv_tableOut hx hb hdg hp ht (kk H ls locs cells slots Z hc hs2)
      · rename_i hp
        obtain ⟨o, ho, hs⟩ := Option.bind_eq_some_iff.mp hs
        obtain ⟨t, ht, rfl⟩ := pz_jps hs
        intro H ls locs cells slots Z hc hs2
        exact lv_tableIn hx hb hdg (fun z => hp (Or.inl z)) (fun z => hp (Or.inr z)) ho ht (kk H ls locs cells slots Z hc hs2)
    · cases hs
  | iaload =>
    have hl : len = 1 := by simpa [pz_ln] using hln
    subst hl
    exact pz_w_iald C hdg hs kk
  | iastore =>
    have hl : len = 1 := by simpa [pz_ln] using hln
    subst hl
    exact pz_w_iast C hdg hs kk
  | aaload =>
    have hl : len = 1 := by simpa [pz_ln] using hln
    subst hl
    exact pz_w_aald C hdg hs kk
  | aastore =>
    have hl : len = 1 := by simpa [pz_ln] using hln
    subst hl
    exact pz_w_aast C hdg hs kk
  | arraylength =>
    have hl : len = 1 := by simpa [pz_ln] using hln
    subst hl
    exact pz_w_alen C hdg hs kk
  | getfield i =>
    have hl : len = 3 := by simpa [pz_ln] using hln
    subst hl
    exact pz_w_getf C hlk hdg hs kk
  | putfield i =>
    have hl : len = 3 := by simpa [pz_ln] using hln
    subst hl
    have hk2 : (px_fk mi i a b && (!(px_T a b).2.2.2 || (decide ((px_y mi).name = "<init>") && decide ((px_T a b).1 = px_R (px_o mi))))) = true := hlk
    rw [Bool.and_eq_true] at hk2
    exact pz_w_putf C hk2.1 hk2.2 hdg hs kk
  | new i =>
    have hl : len = 3 := by simpa [pz_ln] using hln
    subst hl
    have hk2 : (px_nk mi i a && b == px_N a) = true := hlk
    rw [Bool.and_eq_true] at hk2
    exact pz_w_new C hk2.1 hdg hs hr1 hr2 kk
  | newarray t =>
    cases t with
    | int =>
      have hl : len = 2 := by simpa [pz_ln] using hln
      subst hl
      exact pz_w_newa C hdg hs hr1 hr2 kk
    | _ => cases hs
  | anewarray i =>
    have hl : len = 3 := by simpa [pz_ln] using hln
    subst hl
    exact pz_w_newq C hlk hdg hs hr1 hr2 kk
  | checkcast i =>
    have hl : len = 3 := by simpa [pz_ln] using hln
    subst hl
    dsimp only at hs
    split at hs
    · exact pz_w_cast C hlk hdg hs kk
    · cases hs
  | invokespecial i =>
    have hl : len = 3 := by simpa [pz_ln] using hln
    subst hl
    have hs' : pz_isp a b pc L st h = some (.inl q) := hs
    unfold pz_isp at hs'
    by_cases ha : a = 1000
    · rw [if_pos ha] at hs'
      have hk2 : (if a = 1000 then px_xk mi i 1000 else px_jk mi i (.invokespecial i, 3, a, b, z) && (px_ms a).2.1 == 0 && decide ((px_y a).name = "<init>") && decide (px_rt a = none)) = true := hlk
      rw [if_pos ha] at hk2
      split at hs'
      · exact pz_w_obj C hk2 hdg hs' kk
      · cases hs'
    · rw [if_neg ha] at hs'
      split at hs'
      · exact (pz_m_call hs').elim
      · cases hs'
  | invokevirtual i =>
    have hl : len = 3 := by simpa [pz_ln] using hln
    subst hl
    have hs' : pz_ivi a b pc L st h = some (.inl q) := hs
    unfold pz_ivi at hs'
    by_cases ha : a = 1002
    · rw [if_pos ha] at hs'
      have hk2 : (if a = 1002 then px_xk mi i 1002 else px_jk mi i (.invokevirtual i, 3, a, b, z) && (px_ms a).2.1 == 0 && !((px_ms a).2.2.2.1 == 9999) && Nat.blt (px_o a) 10) = true := hlk
      rw [if_pos ha] at hk2
      split at hs'
      · exact pz_w_clone C hk2 hdg hs' hr1 hr2 kk
      · cases hs'
    · rw [if_neg ha] at hs'
      split at hs'
      · split at hs'
        · exact (pz_m_call hs').elim
        · cases hs'
      · cases hs'
  | invokestatic i =>
    have hl : len = 3 := by simpa [pz_ln] using hln
    subst hl
    have hs' : pz_ist_ a b pc L st h = some (.inl q) := hs
    unfold pz_ist_ at hs'
    have hk2 : (if a = 1001 then px_xk mi i 1001 else if a = 1003 then px_xk mi i 1003 else if a = 1004 then px_xk mi i 1004 else px_jk mi i (.invokestatic i, 3, a, b, z) && (px_ms a).2.1 == 1) = true := hlk
    have g1 : h.2.1 ≤ n0 + R.cells := Nat.le_trans hle.1 hr1
    have g2 : h.2.2 ≤ m0 + R.slots := Nat.le_trans hle.2 hr2
    by_cases ha : a = 1001
    · rw [if_pos ha] at hs' hk2
      exact pz_w_cpy C hk2 hdg hs' kk
    · rw [if_neg ha] at hs' hk2
      by_cases ha : a = 1003
      · rw [if_pos ha] at hs' hk2
        exact pz_w_max C hk2 hdg hs' g1 g2 kk
      · rw [if_neg ha] at hs' hk2
        by_cases ha : a = 1004
        · rw [if_pos ha] at hs' hk2
          exact pz_w_min C hk2 hdg hs' g1 g2 kk
        · rw [if_neg ha] at hs' hk2
          exact (pz_m_call hs').elim
  | ireturn =>
    have hl : len = 1 := by simpa [pz_ln] using hln
    subst hl
    dsimp only at hs
    split at hs
    · exact (pz_m_ret hs).elim
    · cases hs
  | lreturn =>
    have hl : len = 1 := by simpa [pz_ln] using hln
    subst hl
    dsimp only at hs
    split at hs
    · exact (pz_m_ret hs).elim
    · cases hs
  | areturn =>
    have hl : len = 1 := by simpa [pz_ln] using hln
    subst hl
    dsimp only at hs
    split at hs
    · exact (pz_m_ret hs).elim
    · exact (pz_m_ret hs).elim
    · cases hs
  | return_ =>
    have hl : len = 1 := by simpa [pz_ln] using hln
    subst hl
    dsimp only at hs
    split at hs <;> cases hs
  | _ => cases hs
end PZ5
end
section
section PZ6
variable {p : Program} {l : Launch} {e : Env} {R : Room} {s : State} {m : MethodId} {args : Array Value} {below : List Frame} {meth : Method} {c : Code} {Q : State → Prop} {G : pz_D} {S : (Nat → Int32) × Nat} {mi n0 m0 : Nat} {pc : Nat} {L : pz_L} {st : List Value} {h : pz_H} {q : Nat × (pz_L × (List Value × pz_H))}
theorem pz_r_call {a n : Nat} {v : Option Value} (hs : pz_call a n st = some (.inr (.inl v))) : False := by
  unfold pz_call at hs
  split at hs <;> cases hs
theorem pz_r_isp {a b : Nat} {v : Option Value} (hs : pz_isp a b pc L st h = some (.inr (.inl v))) : False := by
  unfold pz_isp at hs
  split at hs
  · split at hs
    · split at hs
      · exact pz_nf hs
      · cases hs
    · cases hs
  · split at hs
    · exact (pz_r_call hs).elim
    · cases hs
theorem pz_r_ivi {a b : Nat} {v : Option Value} (hs : pz_ivi a b pc L st h = some (.inr (.inl v))) : False := by
  unfold pz_ivi at hs
  split at hs
  · split at hs
    · obtain ⟨_, _, hs⟩ := Option.bind_eq_some_iff.mp hs
      split at hs
      · exact pz_nf hs
      · cases hs
    · cases hs
  · split at hs
    · split at hs
      · exact (pz_r_call hs).elim
      · cases hs
    · cases hs
theorem pz_r_iss {a b : Nat} {v : Option Value} (hs : pz_ist_ a b pc L st h = some (.inr (.inl v))) : False := by
  unfold pz_ist_ at hs
  split at hs
  · exact pz_n_cpy hs
  · split at hs
    · exact pz_n_mx _ hs
    · split at hs
      · exact pz_n_mx _ hs
      · exact (pz_r_call hs).elim
theorem pz_r_ret {rt : Option FieldType} {w : Value} {v : Option Value} (hs : pz_ret rt w st = some (.inr (.inl v))) : st = [] ∧ v = some w ∧ ∃ t, rt = some t ∧ pz_fit t w = true := by
  unfold pz_ret at hs
  split at hs
  · split at hs
    · rename_i t hf
      cases hs
      exact ⟨rfl, rfl, _, rfl, hf⟩
    · cases hs
  · cases hs
theorem pz_r_step {rt : Option FieldType} {k : px_K} {v : Option Value} (hs : pz_step S rt k pc L st h = some (.inr (.inl v))) :
    (k.1 = .ireturn ∧ ∃ x, st = [.int x] ∧ v = some (.int x) ∧ ∃ t, rt = some t ∧ pz_fit t (.int x) = true) ∨
    (k.1 = .lreturn ∧ ∃ x, st = [.long x] ∧ v = some (.long x) ∧ ∃ t, rt = some t ∧ pz_fit t (.long x) = true) ∨
    (k.1 = .areturn ∧ ∃ w, (w = .null ∨ ∃ a, w = .ref a) ∧ st = [w] ∧ v = some w ∧ ∃ t, rt = some t ∧ pz_fit t w = true) ∨
    (k.1 = .return_ ∧ st = [] ∧ v = none ∧ rt = none) := by
  unfold pz_step at hs
  split at hs
  · exact pz_nf hs
  · exact pz_nf hs
  · exact pz_nf hs
  · exact pz_nf hs
  · exact pz_nf hs
  · exact pz_nf hs
  · exact pz_nf hs
  · exact (pz_n_ild _ _ hs).elim
  · exact (pz_n_ild _ _ hs).elim
  · exact (pz_n_lld _ _ hs).elim
  · exact (pz_n_lld _ _ hs).elim
  · exact (pz_n_ald _ _ hs).elim
  · exact (pz_n_ald _ _ hs).elim
  · exact (pz_n_ist _ _ hs).elim
  · exact (pz_n_ist _ _ hs).elim
  · exact (pz_n_lst _ _ hs).elim
  · exact (pz_n_lst _ _ hs).elim
  · exact (pz_n_ast _ _ hs).elim
  · exact (pz_n_ast _ _ hs).elim
  · split at hs
    · obtain ⟨L2, h1, hs⟩ := Option.bind_eq_some_iff.mp hs
      exact pz_nf hs
    · cases hs
  · exact (pz_n_i2 _ hs).elim
  · exact (pz_n_i2 _ hs).elim
  · exact (pz_n_i2 _ hs).elim
  · exact (pz_n_i2 _ hs).elim
  · exact (pz_n_i2 _ hs).elim
  · exact (pz_n_i2 _ hs).elim
  · exact (pz_n_i2 _ hs).elim
  · exact (pz_n_i2 _ hs).elim
  · exact (pz_n_i2 _ hs).elim
  · exact (pz_n_l2 _ hs).elim
  · exact (pz_n_l2 _ hs).elim
  · exact (pz_n_l2 _ hs).elim
  · exact (pz_n_l2 _ hs).elim
  · exact (pz_n_l2 _ hs).elim
  · split at hs
    · exact pz_nf hs
    · cases hs
  · split at hs
    · exact pz_nf hs
    · cases hs
  · split at hs
    · exact pz_nf hs
    · cases hs
  · split at hs
    · split at hs
      · exact pz_nf hs
      · cases hs
    · cases hs
  · split at hs
    · split at hs
      · exact pz_nf hs
      · cases hs
    · cases hs
  · exact (pz_n_jp _ hs).elim
  · split at hs
    · exact (pz_n_br _ _ hs).elim
    · cases hs
  · split at hs
    · exact (pz_n_br _ _ hs).elim
    · cases hs
  · split at hs
    · exact (pz_n_jp _ hs).elim
    · exact pz_nf hs
    · cases hs
  · split at hs
    · split at hs
      · exact (pz_n_jp _ hs).elim
      · cases hs
    · cases hs
  · split at hs
    · split at hs
      · exact (pz_n_jp _ hs).elim
      · obtain ⟨o, h1, hs⟩ := Option.bind_eq_some_iff.mp hs
        exact (pz_n_jp _ hs).elim
    · cases hs
  · exact (pz_n_iald _ hs).elim
  · exact (pz_n_iast hs).elim
  · exact (pz_n_aald hs).elim
  · exact (pz_n_aast hs).elim
  · exact (pz_n_alen _ hs).elim
  · exact (pz_n_getf _ _ hs).elim
  · exact (pz_n_putf _ _ hs).elim
  · exact pz_nf hs
  · exact (pz_n_newa hs).elim
  · exact (pz_n_newq hs).elim
  · split at hs
    · obtain ⟨o, h1, hs⟩ := Option.bind_eq_some_iff.mp hs
      exact pz_nf hs
    · cases hs
  · exact (pz_r_isp hs).elim
  · exact (pz_r_ivi hs).elim
  · exact (pz_r_iss hs).elim
  · rename_i hk
    split at hs
    · obtain ⟨rfl, rfl, h3⟩ := pz_r_ret hs
      exact Or.inl ⟨hk, _, rfl, rfl, h3⟩
    · cases hs
  · rename_i hk
    split at hs
    · obtain ⟨rfl, rfl, h3⟩ := pz_r_ret hs
      exact Or.inr (Or.inl ⟨hk, _, rfl, rfl, h3⟩)
    · cases hs
  · rename_i hk
    split at hs
    · obtain ⟨rfl, rfl, h3⟩ := pz_r_ret hs
      exact Or.inr (Or.inr (Or.inl ⟨hk, _, Or.inr ⟨_, rfl⟩, rfl, rfl, h3⟩))
    · obtain ⟨rfl, rfl, h3⟩ := pz_r_ret hs
      exact Or.inr (Or.inr (Or.inl ⟨hk, _, Or.inl rfl, rfl, rfl, h3⟩))
    · cases hs
  · rename_i hk
    split at hs
    · cases hs
      exact Or.inr (Or.inr (Or.inr ⟨hk, rfl, rfl, rfl⟩))
    · cases hs
  · cases hs
theorem pz_call_spec {a n : Nat} {y : Nat × (List Value × List Value)} (hs : pz_call a n st = some (.inr (.inr y))) : y.1 = a ∧ n ≤ st.length ∧ y.2.1 = (st.take n).reverse ∧ y.2.2 = st.drop n ∧ pz_sum y.2.2 ≤ 8 ∧ (pz_sl y.2.1).length ≤ px_ml a := by
  unfold pz_call at hs
  split at hs
  · rename_i e
    simp only [Bool.and_eq_true] at e
    cases hs
    exact ⟨rfl, Nat.le_of_ble_eq_true e.1.1, rfl, rfl, Nat.le_of_ble_eq_true e.1.2, Nat.le_of_ble_eq_true e.2⟩
  · cases hs
theorem pz_call_s {a n : Nat} {y : Nat × (List Value × List Value)} (hs : pz_call a n st = some (.inr (.inr y))) : y.1 = a ∧ y.2.1.length = n ∧ st = y.2.1.reverse ++ y.2.2 ∧ pz_sum y.2.2 ≤ 8 ∧ (pz_sl y.2.1).length ≤ px_ml a := by
  obtain ⟨h1, h2, h3, h4, h5, h6⟩ := pz_call_spec hs
  refine ⟨h1, by rw [h3, List.length_reverse, List.length_take]; omega, by rw [h3, h4, List.reverse_reverse, List.take_append_drop], h5, h6⟩
theorem pz_call_i {a b : Nat} {y : Nat × (List Value × List Value)} {i : Nat} {tl : List Value} (hd : st.drop b = .ref i :: tl) (hs : pz_call a (b + 1) st = some (.inr (.inr y))) : y.1 = a ∧ ∃ as, y.2.1 = .ref i :: as ∧ as.length = b ∧ st = as.reverse ++ .ref i :: y.2.2 ∧ pz_sum y.2.2 ≤ 8 ∧ (pz_sl y.2.1).length ≤ px_ml a := by
  obtain ⟨h1, h2, h3, h4, h5, h6⟩ := pz_call_spec hs
  have e1 : st = st.take b ++ .ref i :: tl := by rw [← hd, List.take_append_drop]
  have hb : (st.take b).length = b := by rw [List.length_take]; omega
  have e2 : st.take (b + 1) = st.take b ++ [.ref i] := by rw [List.take_add_one, ← List.head?_drop, hd]; rfl
  have e3 : st.drop (b + 1) = tl := by rw [← List.drop_drop, hd]; rfl
  refine ⟨h1, (st.take b).reverse, by rw [h3, e2]; simp, by rw [List.length_reverse, hb], by rw [List.reverse_reverse, h4, e3]; exact e1, h5, h6⟩
theorem pz_pre {H : Heap} {U : State} (C2 : pz_U G s) (C3 : pz_B G S s) {ls : Array Slot} {locs : List Loc} (Z : pz_Z G s mi h H L ls locs) (hU : U.heap = H) (hW : s.WarmedH U.vm) : pz_R G h U.heap ∧ pz_U G U ∧ pz_B G S U := by
  refine ⟨by rw [hU]; exact Z.1, pz_U.warm hW C2, C3.1, by rw [hU, Z.1.1]; exact Nat.le_add_right _ _, ?_⟩
  rw [hU]
  exact va_X.moved hW.alike (va_X.kept C3.2.2 (Z.2.1 _ C3.1))
end PZ6
def pz_rm (a : Nat) (h h' : pz_H) : Room := { frames := px_fr a, cells := h'.2.1 - h.2.1, slots := h'.2.2 - h.2.2, locals := px_lo a }
def pz_Ih (l : Launch) (S : (Nat → Int32) × Nat) (n : Nat) : Prop := ∀ (mi pc : Nat) (L : pz_L) (st : List Value) (h : pz_H) (v : Option Value) (h' : pz_H), pz_run S n mi pc L st h = some (v, h') →
  ∀ (p : Program) (e : Env) (R : Room) (s : State) (m : MethodId) (args : Array Value) (below : List Frame) (meth : Method) (c : Code) (Q : State → Prop) (G : pz_D) (n0 m0 : Nat), pz_Cx p R s m args meth c G S mi → h'.2.1 ≤ n0 + R.cells → h'.2.2 ≤ m0 + R.slots →
  (∀ (pc' : Nat) (L' : pz_L) (st' : List Value) (k : px_K), px_at mi pc' = some k → pz_step S (px_rt mi) k pc' L' st' h' = some (.inr (.inl v)) → pz_Go p l e R s m args below meth c Q G mi n0 m0 (pc', L', st', h')) → pz_Go p l e R s m args below meth c Q G mi n0 m0 (pc, L, st, h)
theorem pz_met {l : Launch} {S : (Nat → Int32) × Nat} {n : Nat} (ih : pz_Ih l S n) {G : pz_D} {a : Nat} (ha : a < 188) {as : List Value} {h h' : pz_H} {v : Option Value} (hl : (pz_sl as).length ≤ px_ml a) (hr : pz_run S n a 0 (pz_in (px_ml a) as) [] h = some (v, h')) :
    Met l (px_y a) (px_ws a) (pz_rm a h h') (pz_Pc G S as h) (pz_Qc G v h') (h'.2.1 - h.2.1) (h'.2.2 - h.2.2) (fun q => G.2.1.1 ≤ q) := by
  have hle := pz_m_run S n _ _ _ _ _ _ _ hr
  obtain ⟨k1, k2, k3, k4, k5, k6, k7⟩ := px_mkk ha
  refine Met.ofW (cc := px_c a) (maxL := px_ml a) (ret := px_rt a) k6 rfl ?_
  intro p e s m args below meth c s₁ B hml hv
  obtain ⟨rfl, hR, hU, hB⟩ := hv
  have hts := atoms_spec (ws := px_ws a) B.pre
  have hown : s.vm.findClass (px_R (px_o a)) = some m.cls := by rw [← k7]; exact findClass_of_methodNamed B.named
  have C : pz_Cx p (pz_rm a h h') s m (as.map (pz_v G.2.1.1 G.2.1.2)).toArray meth c G S a := ⟨⟨B.exec, B.bytes, hml, hown⟩, fun w hw => hts w (List.mem_cons_of_mem _ hw), hU, hB, ⟨B.notSynchronized, fun hz => (name_of_methodNamed B.named B.method).1.trans hz, B.returns⟩, Nat.le_refl _, Nat.le_refl _⟩
  have hlk := B.notSynchronized
  have key := ih a 0 (pz_in (px_ml a) as) [] h v h' hr p e (pz_rm a h h') s m (as.map (pz_v G.2.1.1 G.2.1.2)).toArray below meth c (MQ below (pz_Qc G v h') (as.map (pz_v G.2.1.1 G.2.1.2)).toArray s (h'.2.1 - h.2.1) (h'.2.2 - h.2.2) (fun q => G.2.1.1 ≤ q)) G h.2.1 h.2.2 C (by show h'.2.1 ≤ h.2.1 + (h'.2.1 - h.2.1); omega) (by show h'.2.2 ≤ h.2.2 + (h'.2.2 - h.2.2); omega) ?_
  · rw [lg_entry_eq]
    exact key s.heap _ [] 0 0 ⟨hR, fun _ _ => rfl, pz_entry G as hl, fun q hq => by cases hq⟩ rfl rfl
  · intro pc' L' st' k hk hs H ls locs cells slots Z hc hs2
    have hc' : cells = h'.2.1 - h.2.1 := by have : h.2.1 + cells = h'.2.1 := hc; omega
    have hs' : slots = h'.2.2 - h.2.2 := by have : h.2.2 + slots = h'.2.2 := hs2; omega
    subst hc'; subst hs'
    have hdg := px_dec hk
    have hln := px_len hk
    have hq : ∀ w : Option Value, v = w → ∀ t : State, t.heap = H → pz_Qc G v h' (as.map (pz_v G.2.1.1 G.2.1.2)).toArray s (.returned (w.map (pz_v G.2.1.1 G.2.1.2))) t := fun w hw t ht => ⟨by rw [hw], by rw [ht]; exact Z.1, by rw [ht]; exact Z.2.1⟩
    obtain ⟨i, len, x1, x2, x3⟩ := k
    rcases pz_r_step hs with ⟨e1, x, rfl, hv, t, ht, hf⟩ | ⟨e1, x, rfl, hv, t, ht, hf⟩ | ⟨e1, w, hw, rfl, hv, t, ht, hf⟩ | ⟨e1, rfl, hv, ht⟩
    · have e1 : i = .ireturn := e1
      subst e1
      have hl1 : len = 1 := by simpa [pz_ln] using hln
      subst hl1
      exact W.zret (ty := t) B.exec B.bytes (B.returns.trans ht) (pz_fits (G := G) hf).1 (fun u hu _ => hq _ hv u hu) Z.2.2.2 hdg hlk
    · have e1 : i = .lreturn := e1
      subst e1
      have hl1 : len = 1 := by simpa [pz_ln] using hln
      subst hl1
      have hty : t = .long := by cases t <;> first | rfl | cases hf
      subst hty
      exact W.lret B.exec B.bytes (B.returns.trans ht) (fun u hu _ => hq _ hv u hu) Z.2.2.2 hdg hlk
    · have e1 : i = .areturn := e1
      subst e1
      have hl1 : len = 1 := by simpa [pz_ln] using hln
      subst hl1
      have hty : (∃ n, t = .object n) ∨ ∃ u, t = .array u := by
        rcases hw with rfl | ⟨b, rfl⟩ <;> cases t <;> first | exact Or.inl ⟨_, rfl⟩ | exact Or.inr ⟨_, rfl⟩ | cases hf
      refine W.aret (rt := t) B.exec B.bytes (B.returns.trans ht) hty ?_ (fun u hu _ => hq _ hv u hu) Z.2.2.2 hdg hlk
      rcases hw with rfl | ⟨b, rfl⟩
      · exact Or.inl rfl
      · exact Or.inr ⟨_, rfl⟩
    · have e1 : i = .return_ := e1
      subst e1
      have hl1 : len = 1 := by simpa [pz_ln] using hln
      subst hl1
      exact W.vret B.exec B.bytes (B.returns.trans ht) (fun u hu _ => hq _ hv u hu) Z.2.2.2 hdg hlk
theorem pz_sim (l : Launch) (S : (Nat → Int32) × Nat) : ∀ n, pz_Ih l S n := by
  intro n
  induction n with
  | zero => intro mi pc L st h v h' hr; cases hr
  | succ n ih =>
    intro mi pc L st h v h' hr p e R s m args below meth c Q G n0 m0 C hr1 hr2 hret
    unfold pz_run at hr
    split at hr
    · cases hr
    · rename_i k hk
      split at hr
      · cases hr
      · rename_i q hs
        have hle := pz_m_run S n _ _ _ _ _ _ _ hr
        exact pz_sim1 C hk hs (Nat.le_trans hle.1 hr1) (Nat.le_trans hle.2 hr2) (ih mi q.1 q.2.1 q.2.2.1 q.2.2.2 v h' hr p e R s m args below meth c Q G n0 m0 C hr1 hr2 hret)
      · rename_i w hs
        cases hr
        exact hret pc L st k hk hs
      · rename_i y hs
        split at hr
        · cases hr
        · rename_i u hu
          obtain ⟨v1, h1⟩ := u
          have hle1 := pz_m_run S n _ _ _ _ _ _ _ hu
          have hle2 : pz_le h1 h' := pz_m_run S n _ _ _ _ _ _ _ hr
          have kk := ih mi (pc + 3) L (v1.toList ++ y.2.2) h1 v h' hr p e R s m args below meth c Q G n0 m0 C hr1 hr2 hret
          have hdg := px_dec hk
          have hln := px_len hk
          have hlk := px_lnk hk
          obtain ⟨⟨hx, hb, hml, hown⟩, hts, C2, C3, ⟨hlk2, hnm, hrt⟩, hfr, hlo⟩ := id C
          obtain ⟨i, len, a, b, z⟩ := k
          have fin : ∀ {H : Heap} {ls : Array Slot} {locs : List Loc} {cells slots : Nat} {st0 : List Value} {w : Array Value}, n0 + cells = h.2.1 → m0 + slots = h.2.2 → pz_Z G s mi h H L ls locs → va_Run p l e R s m args below meth c H locs cells slots (h1.2.1 - h.2.1) (h1.2.2 - h.2.2) (F0 m pc ls st0) (y.2.2.map (pz_v G.2.1.1 G.2.1.2)) (pz_Qc G v1 h1 w) (fun q => G.2.1.1 ≤ q) → W p l e R s m args below meth c H locs cells slots Q (F0 m pc ls st0) := by
            intro H ls locs cells slots st0 w hc hs2 Z hrun
            exact pz_back Z hrun (by have := hle1.1; omega) (by have := hle1.2; omega) kk
          have hroom : ∀ {cells slots : Nat}, n0 + cells = h.2.1 → m0 + slots = h.2.2 → cells + (h1.2.1 - h.2.1) ≤ R.cells ∧ slots + (h1.2.2 - h.2.2) ≤ R.slots := by
            intro cells slots hc hs2
            have g1 := hle1.1; have g2 := hle1.2; have g3 := hle2.1; have g4 := hle2.2
            omega
          rcases pz_n_step hs with ⟨j, e1, hc⟩ | ⟨j, e1, hc⟩ | ⟨j, e1, hc⟩
          · have e1 : i = .invokespecial j := e1
            subst e1
            have hl1 : len = 3 := by simpa [pz_ln] using hln
            subst hl1
            have hc : pz_isp a b pc L st h = some (.inr (.inr y)) := hc
            unfold pz_isp at hc
            have hk2 : (if a = 1000 then px_xk mi j 1000 else px_jk mi j (.invokespecial j, 3, a, b, z) && (px_ms a).2.1 == 0 && decide ((px_y a).name = "<init>") && decide (px_rt a = none)) = true := hlk
            by_cases ha : a = 1000
            · rw [if_pos ha] at hc
              split at hc
              · split at hc
                · exact pz_nf hc
                · cases hc
              · cases hc
            · rw [if_neg ha] at hc hk2
              simp only [Bool.and_eq_true, decide_eq_true_eq, beq_iff_eq] at hk2
              obtain ⟨⟨⟨j1, j2⟩, j3⟩, j4⟩ := hk2
              obtain ⟨f1, f2, f3, f4, f5⟩ := px_jkk j1
              split at hc
              · rename_i ri tl hd
                obtain ⟨g1, as, g2, g3, g4, g5, g6⟩ := pz_call_i hd hc
                obtain ⟨k1, k2, k3, k4, k5, k6, k7⟩ := px_mkk f1
                rw [g1] at hu
                have hM := pz_met ih (G := G) f1 g6 hu
                rw [g2] at hM
                intro H ls locs cells slots Z hc1 hs2
                have hstk : (F0 m pc ls (st.map (pz_v G.2.1.1 G.2.1.2))).stack = (as.map (pz_v G.2.1.1 G.2.1.2)).reverse ++ .ref (G.2.1.1 + ri) :: y.2.2.map (pz_v G.2.1.1 G.2.1.2) := by
                  show st.map (pz_v G.2.1.1 G.2.1.2) = _
                  rw [g4]; simp [pz_v]
                have hw : px_ws a = Cond.code (px_y a) (px_c a) (px_ml a) none :: px_gt := by show Cond.code (px_y a) (px_c a) (px_ml a) (px_rt a) :: px_gt = _; rw [j4]
                rcases f5 with f5 | f5
                · exact fin hc1 hs2 Z (va_runI (As := as.map (pz_v G.2.1.1 G.2.1.2)) (b := G.2.1.1 + ri) (rest := y.2.2.map (pz_v G.2.1.1 G.2.1.2)) ⟨hx, hb, hml, hown, hts⟩ hM ⟨callB_of (px_np a) hts (px_wsg f1) hw rfl rfl (hts _ k1) (hts _ f5) k5 ⟨Nat.le_trans f3 hfr, Nat.le_trans f4 hlo⟩, j3, hts _ (k3 j2)⟩ ⟨pz_blind _, fun U hU hW => ⟨rfl, pz_pre C2 C3 Z hU hW⟩⟩ rfl (by rw [List.length_map, g3]; exact f2) Z.2.2.1.2.1 hstk (by rw [pz_vsum]; show 2 * 0 + _ ≤ 8; omega) hdg (hroom hc1 hs2))
                · exact fin hc1 hs2 Z (va_runIN (As := as.map (pz_v G.2.1.1 G.2.1.2)) (b := G.2.1.1 + ri) (rest := y.2.2.map (pz_v G.2.1.1 G.2.1.2)) ⟨hx, hb, hml, hown, hts⟩ hM ⟨va_cnB (px_np a) hts (px_wsg f1) hw rfl rfl (C2.2.1 _ f5) (hts _ k1) k5 ⟨Nat.le_trans f3 hfr, Nat.le_trans f4 hlo⟩, j3, hts _ (k3 j2)⟩ ⟨pz_blind _, fun U hU hW => ⟨rfl, pz_pre C2 C3 Z hU hW⟩⟩ rfl (by rw [List.length_map, g3]; exact f2) Z.2.2.1.2.1 hstk (by rw [pz_vsum]; show 2 * 0 + _ ≤ 8; omega) hdg (hroom hc1 hs2))
              · cases hc
          · have e1 : i = .invokevirtual j := e1
            subst e1
            have hl1 : len = 3 := by simpa [pz_ln] using hln
            subst hl1
            have hc : pz_ivi a b pc L st h = some (.inr (.inr y)) := hc
            unfold pz_ivi at hc
            have hk2 : (if a = 1002 then px_xk mi j 1002 else px_jk mi j (.invokevirtual j, 3, a, b, z) && (px_ms a).2.1 == 0 && !((px_ms a).2.2.2.1 == 9999) && Nat.blt (px_o a) 10) = true := hlk
            by_cases ha : a = 1002
            · rw [if_pos ha] at hc
              split at hc
              · obtain ⟨_, _, hc⟩ := Option.bind_eq_some_iff.mp hc
                split at hc
                · exact pz_nf hc
                · cases hc
              · cases hc
            · rw [if_neg ha] at hc hk2
              simp only [Bool.and_eq_true, Bool.not_eq_true'] at hk2
              obtain ⟨⟨⟨j1, j2⟩, j3⟩, j4⟩ := hk2
              have j4 : px_o a < 10 := Nat.le_of_ble_eq_true j4
              obtain ⟨f1, f2, f3, f4, f5⟩ := px_jkk j1
              split at hc
              · rename_i ri tl hd
                split at hc
                · rename_i hob
                  obtain ⟨fs, hob⟩ := Option.isSome_iff_exists.mp hob
                  obtain ⟨o1, o2⟩ := pz_obj_spec hob
                  obtain ⟨g1, as, g2, g3, g4, g5, g6⟩ := pz_call_i hd hc
                  obtain ⟨k1, k2, k3, k4, k5, k6, k7⟩ := px_mkk f1
                  rw [g1] at hu
                  have hM := pz_met ih (G := G) f1 g6 hu
                  rw [g2] at hM
                  intro H ls locs cells slots Z hc1 hs2
                  have hstk : (F0 m pc ls (st.map (pz_v G.2.1.1 G.2.1.2))).stack = (as.map (pz_v G.2.1.1 G.2.1.2)).reverse ++ .ref (G.2.1.1 + ri) :: y.2.2.map (pz_v G.2.1.1 G.2.1.2) := by
                    show st.map (pz_v G.2.1.1 G.2.1.2) = _
                    rw [g4]; simp [pz_v]
                  have hrc : ∃ cell : Cell, H[G.2.1.1 + ri]? = some cell ∧ cell.vm.isStatics = false ∧ s.vm.findClass (px_y a).cls = some cell.cls := by
                    rw [k7]
                    exact va_recv C2.1 (pz_one Z.1 o1 o2) (ci := px_o a) (q0 := 0) (px_clat j4) rfl
                  rcases f5 with f5 | f5
                  · exact fin hc1 hs2 Z (va_runV (As := as.map (pz_v G.2.1.1 G.2.1.2)) (b := G.2.1.1 + ri) (C := (px_y a).cls) (rest := y.2.2.map (pz_v G.2.1.1 G.2.1.2)) ⟨hx, hb, hml, hown, hts⟩ hM ⟨callB_of (px_np a) hts (px_wsg f1) rfl rfl rfl (hts _ k1) (hts _ f5) k5 ⟨Nat.le_trans f3 hfr, Nat.le_trans f4 hlo⟩, hts _ (k3 (beq_iff_eq.mp j2)), hts _ (k4 j3)⟩ ⟨pz_blind _, hrc, fun U hU hW => ⟨rfl, pz_pre C2 C3 Z hU hW⟩⟩ rfl (by rw [List.length_map, g3]; exact f2) Z.2.2.1.2.1 hstk (by rw [pz_vsum]; show 2 * 0 + _ ≤ 8; omega) hdg (hroom hc1 hs2))
                  · exact fin hc1 hs2 Z (va_runVN (As := as.map (pz_v G.2.1.1 G.2.1.2)) (b := G.2.1.1 + ri) (C := (px_y a).cls) (rest := y.2.2.map (pz_v G.2.1.1 G.2.1.2)) ⟨hx, hb, hml, hown, hts⟩ hM ⟨va_cnB (px_np a) hts (px_wsg f1) rfl rfl rfl (C2.2.1 _ f5) (hts _ k1) k5 ⟨Nat.le_trans f3 hfr, Nat.le_trans f4 hlo⟩, hts _ (k3 (beq_iff_eq.mp j2)), hts _ (k4 j3)⟩ ⟨pz_blind _, hrc, fun U hU hW => ⟨rfl, pz_pre C2 C3 Z hU hW⟩⟩ rfl (by rw [List.length_map, g3]; exact f2) Z.2.2.1.2.1 hstk (by rw [pz_vsum]; show 2 * 0 + _ ≤ 8; omega) hdg (hroom hc1 hs2))
                · cases hc
              · cases hc
          · have e1 : i = .invokestatic j := e1
            subst e1
            have hl1 : len = 3 := by simpa [pz_ln] using hln
            subst hl1
            have hc : pz_ist_ a b pc L st h = some (.inr (.inr y)) := hc
            unfold pz_ist_ at hc
            have hk2 : (if a = 1001 then px_xk mi j 1001 else if a = 1003 then px_xk mi j 1003 else if a = 1004 then px_xk mi j 1004 else px_jk mi j (.invokestatic j, 3, a, b, z) && (px_ms a).2.1 == 1) = true := hlk
            by_cases ha : a = 1001
            · rw [if_pos ha] at hc
              exact (pz_n_cpy hc).elim
            · rw [if_neg ha] at hc hk2
              by_cases ha : a = 1003
              · rw [if_pos ha] at hc
                exact (pz_n_mx _ hc).elim
              · rw [if_neg ha] at hc hk2
                by_cases ha : a = 1004
                · rw [if_pos ha] at hc
                  exact (pz_n_mx _ hc).elim
                · rw [if_neg ha] at hc hk2
                  simp only [Bool.and_eq_true, beq_iff_eq] at hk2
                  obtain ⟨j1, j2⟩ := hk2
                  obtain ⟨f1, f2, f3, f4, f5⟩ := px_jkk j1
                  obtain ⟨g1, g3, g4, g5, g6⟩ := pz_call_s hc
                  obtain ⟨k1, k2, k3, k4, k5, k6, k7⟩ := px_mkk f1
                  rw [g1] at hu
                  have hM := pz_met ih (G := G) f1 g6 hu
                  intro H ls locs cells slots Z hc1 hs2
                  have hstk : (F0 m pc ls (st.map (pz_v G.2.1.1 G.2.1.2))).stack = (y.2.1.map (pz_v G.2.1.1 G.2.1.2)).reverse ++ y.2.2.map (pz_v G.2.1.1 G.2.1.2) := by
                    show st.map (pz_v G.2.1.1 G.2.1.2) = _
                    rw [← List.map_reverse, ← List.map_append, ← g4]
                  rcases f5 with f5 | f5
                  · exact fin hc1 hs2 Z (va_runS (As := y.2.1.map (pz_v G.2.1.1 G.2.1.2)) (rest := y.2.2.map (pz_v G.2.1.1 G.2.1.2)) ⟨hx, hb, hml, hown, hts⟩ hM ⟨callB_of (px_np a) hts (px_wsg f1) rfl rfl rfl (hts _ k1) (hts _ f5) k5 ⟨Nat.le_trans f3 hfr, Nat.le_trans f4 hlo⟩, hts _ (k2 j2)⟩ ⟨pz_blind _, fun U hU hW => ⟨rfl, pz_pre C2 C3 Z hU hW⟩⟩ rfl (by rw [List.length_map, g3]; exact f2) Z.2.2.1.2.1 hstk (by rw [pz_vsum]; show 2 * 0 + _ ≤ 8; omega) hdg (hroom hc1 hs2))
                  · exact fin hc1 hs2 Z (va_runSN (As := y.2.1.map (pz_v G.2.1.1 G.2.1.2)) (rest := y.2.2.map (pz_v G.2.1.1 G.2.1.2)) ⟨hx, hb, hml, hown, hts⟩ hM ⟨va_cnB (px_np a) hts (px_wsg f1) rfl rfl rfl (C2.2.1 _ f5) (hts _ k1) k5 ⟨Nat.le_trans f3 hfr, Nat.le_trans f4 hlo⟩, hts _ (k2 j2), trivial⟩ ⟨pz_blind _, fun U hU hW => ⟨rfl, pz_pre C2 C3 Z hU hW⟩⟩ rfl (by rw [List.length_map, g3]; exact f2) Z.2.2.1.2.1 hstk (by rw [pz_vsum]; show 2 * 0 + _ ≤ 8; omega) hdg (hroom hc1 hs2))
end
section
/-! THE CLAIM OUT OF ONE WALK OF THE LAW'S BODY. Your part is whole_start (and what it stands on); all else here is the same for every law, but numbers. -/
def R_law : String := "RowUnwinderLaw"
def lw_P (b : Addr) (xs : List Int32) (args : Array Value) (s : State) : Prop := args = #[.ref b] ∧ s.IntsAt b xs ∧ xs.length ≤ 2560 ∧ (Jvm.Cond.and given_1 narrow_1).before args s = true
def lw_Q (_ : Array Value) (s : State) (o : Outcome) (t : State) : Prop := o = .returned (some (.int 1)) ∧ Framed s o t [] 600000 7302250
def lw_Z (below : List Frame) (a : Array Value) (s : State) : State → Prop := fun t => ∃ o, t.status = .running ∧ Ended t below o ∧ lw_Q a s o t
/-- the law's own end, with 1 on the stack, nothing written that was there before, its room as the claim has it -/
theorem lw_ret {p : Program} {l : Launch} {e : Env} {s : State} {m : MethodId} {below : List Frame} {meth : Method} {c : Code} {b : Nat} (hx : p.tables.exec = Jvm.exec) (hb : c.code = code) (hr : meth.sig.returnType = ret) (hlocks : meth.locks = false) {pc : Nat} {H : Heap} {ls : Array Slot} (hdg : decode code pc = .ok (.ireturn, 1)) : W p l e room_1 s m #[Value.ref b] below meth c H [] 600000 7302250 (lw_Z below #[Value.ref b] s) (F0 m pc ls [.int 1]) := by
  intro T hT X
  obtain ⟨fs, hret, hrun, hended, hW, hframe⟩ := X.leave (v := some (.int 1)) (hlocks := hlocks) (fun h => by rw [hr] at h; cases h)
  have hmeth' : T.vm.method? m = some meth := X.method'
  refine ⟨T.setFrames fs, ?_, .returned (some (.int 1)), hrun, hended, rfl, ⟨_, rfl⟩, hW, hframe⟩
  jvm_step X.here [X.here.top, hx, hb, hdg, hmeth', hr, ret, narrow_b1]
  (try refine ⟨rfl, ?_⟩); (try refine ⟨rfl, ?_⟩)
  first | (intro acts; rw [hret _ acts rfl rfl rfl]) | rw [hret _ _ rfl rfl rfl]
  exact Steps.refl _
/-- what holds at the law's entry: the machine, the code, the tables' words (any of lw_tbl by 'hts w (by decide +kernel)'), the script of L ints xs at the cell b, what the Statement gives of the start (any of its parts by flat_of_before) -/
def lw_At (p : Program) (s : State) (m : MethodId) (meth : Method) (c : Code) (b L : Nat) (xs : Nat → Int32) : Prop :=
  p.tables.exec = Jvm.exec ∧ c.code = code ∧ meth.sig.returnType = ret ∧ c.maxLocals = 4 ∧ s.vm.findClass R_law = some m.cls ∧ (∀ w ∈ lw_tbl, w.before #[Value.ref b] s = true) ∧ va_X b L xs s s.heap ∧ b < s.heap.size ∧ meth.locks = false ∧ (Jvm.Cond.and given_1 narrow_1).before #[Value.ref b] s = true
/-! ## the law: from a run of our machine to the claim's walk -/
def pz_h0 : pz_H := (fun _ => .inl (0, fun _ => 0), (0, 0))
set_option maxRecDepth 100000 in
theorem px_ins : ((List.range 10).all fun c => decide (Cond.instantiable (px_R c) (px_N c) ∈ lw_tbl)) = true := by decide +kernel
theorem pz_start (hrun : ∀ (S : (Nat → Int32) × Nat), S.2 ≤ 2560 → ∃ n h', pz_run S n 188 0 (pz_in 4 [.retAddr 0]) [] pz_h0 = some (some (.int 1), h') ∧ h'.2.1 ≤ 600000 ∧ h'.2.2 ≤ 7302250)
    {p : Program} {e : Env} {s : State} {m : MethodId} {below : List Frame} {meth : Method} {c : Code} (l : Launch) {b L : Nat} {xs : Nat → Int32} (hL : L ≤ 2560) (C0 : lw_At p s m meth c b L xs) : W p l e room_1 s m #[Value.ref b] below meth c s.heap [] 0 0 (lw_Z below #[Value.ref b] s) (entryFrame m ([Value.ref b] : List Value).toArray 4) := by
  obtain ⟨hx, hb, hr, hml, hown, hts, hX, hbl, hlocks, hgv⟩ := id C0
  obtain ⟨n, h', hr1, hr2, hr3⟩ := hrun (xs, L) hL
  have hkn : ∀ k : Nat, ∃ q : ClassId × (Nat → Nat), k < 10 → u_Kn s (px_R k) (px_T k) (px_N k) q.1 q.2 := by
    intro k
    by_cases hk : k < 10
    · obtain ⟨cC, iS, h⟩ := u_known (C := px_R k) (T := px_T k) (N := px_N k) (n := px_N k) hts (fun w hw => (List.mem_filter.mp (px_uin hk w hw)).1) (hts _ (of_decide_eq_true (List.all_eq_true.mp px_ins k (List.mem_range.mpr hk))))
      exact ⟨(cC, iS), fun _ => h⟩
    · exact ⟨(0, fun _ => 0), fun h => absurd h hk⟩
  obtain ⟨cI, kI, comp, a1, a2, a3⟩ := Cond.arrayClass_spec (hts _ px_w_arr.1)
  obtain ⟨compQ, cQ, kQ, b1, b2, b3, b4, b5⟩ := Cond.arrayOver_spec (hts _ px_w_arr.2.1)
  generalize hG : (((fun k => (Classical.choose (hkn k)).1, fun k => (Classical.choose (hkn k)).2), ((s.heap.size, b), (cI, cQ))) : pz_D) = G
  have g1 : G.2.1.1 = s.heap.size := by rw [← hG]
  have g2 : G.2.1.2 = b := by rw [← hG]
  have hK : va_K G.1 px_cl [(G.2.2.1, .int), (G.2.2.2, .object RX3)] s := by
    rw [← hG]
    refine ⟨fun k q hq => ?_, fun k q hq => ?_⟩
    · have hk : k < 10 := (List.getElem?_eq_some_iff.mp hq).1
      have hq2 := (px_clat hk).symm.trans hq
      cases hq2
      exact Classical.choose_spec (hkn k) hk
    · have hk : k < 2 := (List.getElem?_eq_some_iff.mp hq).1
      rcases (show k = 0 ∨ k = 1 by omega) with rfl | rfl
      · cases hq
        exact ⟨fun n z => ⟨fun k h => (by cases h), kI, a2, comp, a3⟩, a1⟩
      · cases hq
        exact ⟨fun n z => ⟨fun k h => (by cases h), kQ, b3, compQ, b4⟩, kQ, compQ, b3, b4, b1, b5⟩
  have hU : pz_U G s := by
    refine ⟨hK, fun w hw => ?_, va_Nw.of rfl (hts _ px_w_cl.2.2.2.2), va_AO.of (hts _ px_w_arr.2.1)⟩
    have h1 := List.mem_filter.mp hw
    have h2 := h1.2
    have h3 := hts w h1.1
    cases w <;> first | exact va_Nw.of rfl h3 | (simp at h2; done)
  have C : pz_Cx p room_1 s m #[Value.ref b] meth c G (xs, L) 188 := by
    refine ⟨⟨hx, hb, hml, hown⟩, fun w hw => hts w (List.mem_filter.mp hw).1, hU, ⟨by rw [g1, g2]; exact hbl, by rw [g1]; exact Nat.le_refl _, by rw [g2]; exact hX⟩, ⟨hlocks, fun hz => ?_, hr⟩, Nat.le_of_ble_eq_true rfl, Nat.le_of_ble_eq_true rfl⟩
    exact absurd hz (by decide +kernel)
  have key := pz_sim l (xs, L) n 188 0 (pz_in 4 [.retAddr 0]) [] pz_h0 (some (.int 1)) h' hr1 p e room_1 s m #[Value.ref b] below meth c (lw_Z below #[Value.ref b] s) G 0 0 C (by show h'.2.1 ≤ 0 + 600000; omega) (by show h'.2.2 ≤ 0 + 7302250; omega) ?_
  · rw [lg_entry_eq]
    refine key s.heap _ [] 0 0 ⟨⟨by rw [g1]; rfl, fun i hi => absurd hi (Nat.not_lt_zero i)⟩, fun _ _ => rfl, ?_, fun q hq => by cases hq⟩ rfl rfl
    have h1 := pz_entry G [.retAddr 0] (n := 4) (Nat.le_of_ble_eq_true rfl)
    have h2 : [Value.retAddr 0].map (pz_v G.2.1.1 G.2.1.2) = [Value.ref b] := by show [Value.ref G.2.1.2] = _; rw [g2]
    rw [h2] at h1
    exact h1
  · intro pc' L' st' k hk hs H ls locs cells slots Z hc hs2
    have hdg := px_dec hk
    have hln := px_len hk
    obtain ⟨i, len, x1, x2, x3⟩ := k
    have hc1 : cells ≤ 600000 := by have : 0 + cells = h'.2.1 := hc; omega
    have hs1 : slots ≤ 7302250 := by have : 0 + slots = h'.2.2 := hs2; omega
    rcases pz_r_step hs with ⟨e1, x, rfl, hv, t, ht, hf⟩ | ⟨e1, x, rfl, hv, t, ht, hf⟩ | ⟨e1, w, hw, rfl, hv, t, ht, hf⟩ | ⟨e1, rfl, hv, ht⟩
    · have e1 : i = .ireturn := e1
      subst e1
      have hl1 : len = 1 := by simpa [pz_ln] using hln
      subst hl1
      cases hv
      refine va_forget (fun q hq => by rw [← g1]; exact Z.2.2.2 q hq) ?_
      refine W.widen hc1 hs1 ?_
      exact lw_ret hx hb hr hlocks hdg
    · cases hv
    · rcases hw with rfl | ⟨a, rfl⟩ <;> cases hv
    · cases hv
end
section
/-! ## numbers as Int: typed values, a typed heap -/
abbrev qV : Type := Int ⊕ (Int ⊕ (Nat ⊕ (Nat ⊕ Unit)))
abbrev qi (x : Int) : qV := .inl x
abbrev ql (x : Int) : qV := .inr (.inl x)
abbrev qs (a : Nat) : qV := .inr (.inr (.inl a))
abbrev qr (a : Nat) : qV := .inr (.inr (.inr (.inl a)))
abbrev qx : qV := .inr (.inr (.inr (.inr ())))
abbrev qL : Type := List (Option qV)
abbrev qT : Type := (Nat → Nat × Int) × ((Nat → Int → Nat) × (Nat × Nat))
abbrev qD : Type := Nat → Int → Int
def qc : qV → Value
  | .inl x => .int (Int32.ofInt x)
  | .inr (.inl x) => .long (Int64.ofInt x)
  | .inr (.inr (.inl a)) => .ref a
  | .inr (.inr (.inr (.inl a))) => if a = 0 then .null else .ref a
  | .inr (.inr (.inr (.inr _))) => .retAddr 0
def qcl (L : qL) : pz_L := L.map fun v => v.map qc
def qF (ty : FieldType) (p : Nat) (d : Int) : Value := match ty with
  | .int => .int (Int32.ofInt d)
  | .boolean => .int (Int32.ofInt d)
  | .long => .long (Int64.ofInt d)
  | _ => if p = 0 then .null else .ref p
def qE (T : Nat → Nat × Int) (P : Nat → Int → Nat) (D : qD) (a : Nat) : pz_E :=
  if (T a).1 = 10 then .inl ((T a).2.toNat, fun i => Int32.ofInt (D a i))
  else if (T a).1 = 11 then .inr (.inl ((T a).2.toNat, fun i => if P a i = 0 then none else some (P a i)))
  else if (T a).1 = 12 then .inl (0, fun _ => 0)
  else .inr (.inr ((T a).1, (List.range (px_N (T a).1)).map fun b => qF (px_ty (T a).1 b) (P a b) (D a b)))
def qH (t : qT) (D : qD) : pz_H := (fun a => qE t.1 t.2.1 D a, t.2.2)
/-! static cells: what the law makes first lies at fixed places -/
def qST : List (Nat × Int) := [(8, 0), (4, 0), (10, 100), (2, 0), (11, 30), (2, 0), (11, 30), (7, 0), (10, 6), (10, 6), (10, 6), (7, 0), (10, 6), (10, 6), (10, 6), (3, 0), (0, 0), (10, 180), (10, 72), (10, 3), (10, 45), (10, 3), (10, 9), (10, 4), (10, 8), (10, 8), (10, 48), (10, 24), (9, 0), (10, 100), (10, 3), (10, 3), (10, 72), (10, 45), (10, 120), (10, 30), (10, 30), (10, 3), (10, 3), (10, 72), (10, 45), (10, 16), (10, 110), (10, 3300), (10, 24), (10, 110), (10, 110), (10, 3300), (10, 24)]
def qsT (a : Nat) : Nat × Int := qST.getD a (12, 0)
def qSP : List (Nat × List (Nat × Nat)) := [(0, [(0, 1), (1, 3), (2, 5), (3, 7), (4, 11)]), (1, [(0, 2)]), (3, [(0, 4)]), (5, [(0, 6)]), (7, [(0, 8), (1, 9), (2, 10)]), (11, [(0, 12), (1, 13), (2, 14)]), (28, [(0, 29), (10, 30), (11, 31), (12, 32), (13, 33), (16, 34), (17, 35), (18, 36), (19, 37), (20, 38), (21, 39), (22, 40), (23, 41), (25, 42), (26, 43), (32, 44), (34, 45), (38, 46), (39, 47), (40, 48)])]
def qsP (a b : Nat) : Option Nat := match qSP.lookup a with
  | some l => l.lookup b
  | none => none
def qSt (t : qT) : Prop := 49 ≤ t.2.2.1 ∧ (∀ a, (t.1 a).1 ≠ 12 → a < t.2.2.1) ∧ (∀ a, a < 49 → t.1 a = qsT a) ∧ (∀ a b v, qsP a b = some v → t.2.1 a b = v) ∧ (∀ a, 0 ≤ (t.1 a).2 ∧ (t.1 a).2 < 2147483648)
def qEx (t t' : qT) : Prop := t.2.2.1 ≤ t'.2.2.1 ∧ t.2.2.2 ≤ t'.2.2.2 ∧ ∀ a, a < t.2.2.1 → t'.1 a = t.1 a
def chk (c : Prop) [Decidable c] (K : Prop) : Prop := if c then K else False
abbrev qR (x : Int) : Prop := -2147483648 ≤ x ∧ x < 2147483648
abbrev qR64 (x : Int) : Prop := -9223372036854775808 ≤ x ∧ x < 9223372036854775808
def up (D : qD) (a : Nat) (i x : Int) : qD := fun b j => if b = a ∧ j = i then x else D b j
def upr (D : qD) (a : Nat) (f : Int → Int) : qD := fun b => if b = a then f else D b
def upP (P : Nat → Int → Nat) (a : Nat) (i : Int) (x : Nat) : Nat → Int → Nat := fun b j => if b = a ∧ j = i then x else P b j
def nwP (P : Nat → Int → Nat) (a : Nat) : Nat → Int → Nat := fun b j => if b = a then 0 else P b j
def nwT (T : Nat → Nat × Int) (a : Nat) (k : Nat × Int) : Nat → Nat × Int := fun b => if b = a then k else T b
def qand (x y : Int) : Int := (Int32.ofInt x &&& Int32.ofInt y).toInt
def qor (x y : Int) : Int := (Int32.ofInt x ||| Int32.ofInt y).toInt
def qshl (x y : Int) : Int := (Int32.ofInt x <<< (Int32.ofInt y &&& 31)).toInt
def qshr (x y : Int) : Int := (Int32.ofInt x >>> (Int32.ofInt y &&& 31)).toInt
def qcmp (x y : Int) : Int := if x < y then -1 else if x = y then 0 else 1
def qmax (x y : Int) : Int := if x < y then y else x
def qmin (x y : Int) : Int := if y < x then y else x
def qcat : qV → Nat
  | .inr (.inl _) => 2
  | _ => 1
def qsum (st : List qV) : Nat := (st.map qcat).sum
def qsl : List qV → qL
  | [] => []
  | v :: vs => if qcat v = 2 then some v :: none :: qsl vs else some v :: qsl vs
def qin (n : Nat) (vs : List qV) : qL := qsl vs ++ List.replicate (n - (qsl vs).length) none
def qcv (rt : Option FieldType) (x : Int) : List qV := match rt with
  | none => []
  | some .int => [qi x]
  | some .boolean => [qi x]
  | some .long => [ql x]
  | _ => [qr x.toNat]
def qcR (rt : Option FieldType) (x : Int) : Option Value := ((qcv rt x).head?).map qc
def wp (S : (Nat → Int32) × Nat) (m pc : Nat) (L : qL) (st : List qV) (t : qT) (D : qD) (Q : Int → qT → qD → Prop) : Prop :=
  qSt t → ∃ (N : Nat) (x : Int) (t' : qT) (D' : qD), pz_run S N m pc (qcl L) (st.map qc) (qH t D) = some (qcR (px_rt m) x, qH t' D') ∧ qSt t' ∧ qEx t t' ∧ Q x t' D'
def qget (L : qL) (i : Nat) : Option qV := match L[i]? with
  | some (some v) => some v
  | _ => none
def qc2 (L : qL) (i : Nat) : Bool := match i with
  | 0 => false
  | k + 1 => match qget L k with
    | some v => qcat v == 2
    | none => false
abbrev qK : Type := Nat → qL → List qV → qT → qD → Prop
section QZ0
variable (pc : Nat) (L : qL) (st : List qV) (t : qT) (D : qD) (K : qK) (Q : Int → qT → qD → Prop)
def q_ild (i pc' : Nat) : Prop := match qget L i with
  | some (.inl x) => K pc' L (qi x :: st) t D
  | _ => False
def q_lld (i pc' : Nat) : Prop := match qget L i with
  | some (.inr (.inl x)) => K pc' L (ql x :: st) t D
  | _ => False
def q_ald (i pc' : Nat) : Prop := match qget L i with
  | some (.inr (.inr v)) => K pc' L (.inr (.inr v) :: st) t D
  | _ => False
def q_ist (i pc' : Nat) : Prop := match st with
  | .inl x :: r => chk (i < L.length ∧ qc2 L i = false) (K pc' (L.set i (some (qi x))) r t D)
  | _ => False
def q_lst (i pc' : Nat) : Prop := match st with
  | .inr (.inl x) :: r => chk (i + 1 < L.length ∧ qc2 L i = false) (K pc' ((L.set i (some (ql x))).set (i + 1) none) r t D)
  | _ => False
def q_ast (i pc' : Nat) : Prop := match st with
  | .inr (.inr (.inl a)) :: r => chk (i < L.length ∧ qc2 L i = false) (K pc' (L.set i (some (qs a))) r t D)
  | .inr (.inr (.inr (.inl a))) :: r => chk (i < L.length ∧ qc2 L i = false) (K pc' (L.set i (some (qr a))) r t D)
  | _ => False
def q_i2 (f : Int → Int → Int) : Prop := match st with
  | .inl y :: .inl x :: r => K (pc + 1) L (qi (f x y) :: r) t D
  | _ => False
def q_idv (f : Int → Int → Int) : Prop := match st with
  | .inl y :: .inl x :: r => chk (0 ≤ x ∧ x < 2147483648) (chk (0 < y ∧ y < 2147483648) (K (pc + 1) L (qi (f x y) :: r) t D))
  | _ => False
def q_l2 (f : Int → Int → Int) : Prop := match st with
  | .inr (.inl y) :: .inr (.inl x) :: r => K (pc + 1) L (ql (f x y) :: r) t D
  | _ => False
def q_ldv (f : Int → Int → Int) : Prop := match st with
  | .inr (.inl y) :: .inr (.inl x) :: r => chk (0 ≤ x ∧ x < 9223372036854775808) (chk (0 < y ∧ y < 9223372036854775808) (K (pc + 1) L (ql (f x y) :: r) t D))
  | _ => False
def q_lnd : Prop := match st with
  | .inr (.inl y) :: .inr (.inl x) :: r => chk (y = 2147483647) (K (pc + 1) L (ql (x % 2147483648) :: r) t D)
  | _ => False
def q_lcm : Prop := match st with
  | .inr (.inl y) :: .inr (.inl x) :: r => chk (x = y ∨ (qR64 x ∧ qR64 y)) (K (pc + 1) L (qi (qcmp x y) :: r) t D)
  | _ => False
def q_to (off : Int) (f : Nat → Prop) : Prop := match pz_tg pc off with
  | some p => f p
  | none => False
def q_br (c : Jvm.ClassFile.Cond) (x y : Int) (A B : Prop) : Prop := match c with
  | .eq => if x = y then A else B
  | .ne => if x = y then B else A
  | .lt => if x < y then A else B
  | .ge => if x < y then B else A
  | .gt => if y < x then A else B
  | .le => if y < x then B else A
def q_if (c : Jvm.ClassFile.Cond) (off : Int) : Prop := match st with
  | .inl x :: r => chk (qR x) (q_to pc off fun p => q_br c x 0 (K p L r t D) (K (pc + 3) L r t D))
  | _ => False
def q_ic (c : Jvm.ClassFile.Cond) (off : Int) : Prop := match st with
  | .inl y :: .inl x :: r => chk (qR x) (chk (qR y) (q_to pc off fun p => q_br c x y (K p L r t D) (K (pc + 3) L r t D)))
  | _ => False
def q_nn (off : Int) : Prop := match st with
  | .inr (.inr (.inl _)) :: r => q_to pc off fun p => K p L r t D
  | .inr (.inr (.inr (.inl a))) :: r => q_to pc off fun p => if a = 0 then K (pc + 3) L r t D else K p L r t D
  | _ => False
def q_lk (d : Int) (x : Int) (r : List qV) : List (Int × Int) → Prop
  | [] => q_to pc d fun p => K p L r t D
  | (a, o) :: l => if x = a then q_to pc o fun p => K p L r t D else q_lk d x r l
def q_lks (d : Int) (ps : List (Int × Int)) : Prop := match st with
  | .inl x :: r => chk (qR x) (chk ((ps.zip (ps.drop 1)).all (fun (a, next) => a.1 < next.1) = true) (q_lk pc L t D K d x r ps))
  | _ => False
def q_tb (d : Int) (x : Int) (r : List qV) : Int → List Int → Prop
  | _, [] => q_to pc d fun p => K p L r t D
  | i, o :: l => if x = i then q_to pc o fun p => K p L r t D else q_tb d x r (i + 1) l
def q_tbs (d lo hi : Int) (os : List Int) : Prop := match st with
  | .inl x :: r => chk (qR x) (chk (hi - lo + 1 = os.length) (q_tb pc L t D K d x r lo os))
  | _ => False
def q_iald (S : (Nat → Int32) × Nat) : Prop := match st with
  | .inl j :: .inr (.inr (.inl a)) :: r => chk ((qsT a).1 = 10) (chk (0 ≤ j ∧ j < (qsT a).2) (K (pc + 1) L (qi (D a j) :: r) t D))
  | .inl j :: .inr (.inr (.inr (.inl a))) :: r => chk ((t.1 a).1 = 10) (chk (0 ≤ j ∧ j < (t.1 a).2) (K (pc + 1) L (qi (D a j) :: r) t D))
  | .inl j :: .inr (.inr (.inr (.inr _))) :: r => chk (0 ≤ j ∧ j < S.2 ∧ j < 2147483648) (K (pc + 1) L (qi (S.1 j.toNat).toInt :: r) t D)
  | _ => False
def q_iast : Prop := match st with
  | .inl x :: .inl j :: .inr (.inr (.inl a)) :: r => chk ((qsT a).1 = 10) (chk (0 ≤ j ∧ j < (qsT a).2) (K (pc + 1) L r t (up D a j x)))
  | .inl x :: .inl j :: .inr (.inr (.inr (.inl a))) :: r => chk ((t.1 a).1 = 10) (chk (0 ≤ j ∧ j < (t.1 a).2) (K (pc + 1) L r t (up D a j x)))
  | _ => False
def q_aald : Prop := match st with
  | .inl j :: .inr (.inr (.inl a)) :: r => chk ((qsT a).1 = 11) (chk (0 ≤ j ∧ j < (qsT a).2) (K (pc + 1) L (qr (t.2.1 a j) :: r) t D))
  | .inl j :: .inr (.inr (.inr (.inl a))) :: r => chk ((t.1 a).1 = 11) (chk (0 ≤ j ∧ j < (t.1 a).2) (K (pc + 1) L (qr (t.2.1 a j) :: r) t D))
  | _ => False
def q_aast : Prop := match st with
  | .inr (.inr (.inr (.inl v))) :: .inl j :: .inr (.inr (.inl a)) :: r => chk ((qsT a).1 = 11) (chk (v = 0 ∨ (t.1 v).1 = 3) (chk (0 ≤ j ∧ j < (qsT a).2) (K (pc + 1) L r (t.1, upP t.2.1 a j v, t.2.2) D)))
  | _ => False
def q_alen (S : (Nat → Int32) × Nat) : Prop := match st with
  | .inr (.inr (.inl a)) :: r => chk ((qsT a).1 = 10) (K (pc + 1) L (qi (qsT a).2 :: r) t D)
  | .inr (.inr (.inr (.inl a))) :: r => chk ((t.1 a).1 = 10) (K (pc + 1) L (qi (t.1 a).2 :: r) t D)
  | .inr (.inr (.inr (.inr _))) :: r => K (pc + 1) L (qi S.2 :: r) t D
  | _ => False
def q_gf (a b : Nat) : Prop := match st with
  | .inr (.inr (.inl o)) :: r => chk ((qsT o).1 = a ∧ a < 10 ∧ b < px_N a) (match px_ty a b with
    | .int => K (pc + 3) L (qi (D o b) :: r) t D
    | .boolean => K (pc + 3) L (qi (D o b) :: r) t D
    | .long => K (pc + 3) L (ql (D o b) :: r) t D
    | _ => match qsP o b with
      | some v => chk (v ≠ 0) (K (pc + 3) L (qs v :: r) t D)
      | none => K (pc + 3) L (qr (t.2.1 o b) :: r) t D)
  | .inr (.inr (.inr (.inl o))) :: r => chk (a ≠ 8 ∧ a < 10 ∧ b < px_N a) (chk ((t.1 o).1 = a) (match px_ty a b with
    | .int => K (pc + 3) L (qi (D o b) :: r) t D
    | .boolean => K (pc + 3) L (qi (D o b) :: r) t D
    | .long => K (pc + 3) L (ql (D o b) :: r) t D
    | _ => K (pc + 3) L (qr (t.2.1 o b) :: r) t D))
  | _ => False
def q_pfv (a b o : Nat) (v : qV) (r : List qV) : Prop := match px_ty a b, v with
  | .int, .inl x => K (pc + 3) L r t (up D o b x)
  | .boolean, .inl x => chk (x = 0 ∨ x = 1) (K (pc + 3) L r t (up D o b x))
  | .long, .inr (.inl x) => K (pc + 3) L r t (up D o b x)
  | .object _, .inr (.inr (.inl v)) => chk (qsP o b = none ∧ v ≠ 0) (K (pc + 3) L r (t.1, upP t.2.1 o b v, t.2.2) D)
  | .object _, .inr (.inr (.inr (.inl v))) => chk (qsP o b = none) (K (pc + 3) L r (t.1, upP t.2.1 o b v, t.2.2) D)
  | .array _, .inr (.inr (.inr (.inl v))) => chk (qsP o b = none) (K (pc + 3) L r (t.1, upP t.2.1 o b v, t.2.2) D)
  | _, _ => False
def q_pf (a b : Nat) : Prop := match st with
  | v :: .inr (.inr (.inl o)) :: r => chk ((qsT o).1 = a ∧ a < 10 ∧ b < px_N a) (q_pfv pc L t D K a b o v r)
  | v :: .inr (.inr (.inr (.inl o))) :: r => chk (a ≠ 8 ∧ a < 10 ∧ b < px_N a) (chk ((t.1 o).1 = a) (q_pfv pc L t D K a b o v r))
  | _ => False
def q_new (a : Nat) : Prop := chk (a < 10) (K (pc + 3) L (qr t.2.2.1 :: st) (nwT t.1 t.2.2.1 (a, 0), nwP t.2.1 t.2.2.1, (t.2.2.1 + 1, t.2.2.2 + px_N a)) (upr D t.2.2.1 (fun _ => 0)))
def q_nwa : Prop := match st with
  | .inl x :: r => chk (0 ≤ x ∧ x ≤ 134217728) (K (pc + 2) L (qr t.2.2.1 :: r) (nwT t.1 t.2.2.1 (10, x), nwP t.2.1 t.2.2.1, (t.2.2.1 + 1, t.2.2.2 + x.toNat)) (upr D t.2.2.1 (fun _ => 0)))
  | _ => False
def q_cc : Prop := match st with
  | .inr (.inr (.inr (.inl a))) :: r => chk ((t.1 a).1 = 10) (K (pc + 3) L (qr a :: r) t D)
  | _ => False
def q_call (S : (Nat → Int32) × Nat) (a n : Nat) : Prop := chk (n ≤ st.length ∧ qsum (st.drop n) ≤ 8 ∧ (qsl (st.take n).reverse).length ≤ px_ml a)
  (wp S a 0 (qin (px_ml a) (st.take n).reverse) [] t D fun x t' D' => K (pc + 3) L (qcv (px_rt a) x ++ st.drop n) t' D')
def q_isp (S : (Nat → Int32) × Nat) (a b : Nat) : Prop := if a = 1000 then (match st with
    | .inr (.inr (.inl _)) :: r => chk (qsum r ≤ 8) (K (pc + 3) L r t D)
    | .inr (.inr (.inr (.inl o))) :: r => chk ((t.1 o).1 ≠ 8 ∧ qsum r ≤ 8) (K (pc + 3) L r t D)
    | _ => False)
  else match st.drop b with
    | .inr (.inr (.inl _)) :: _ => q_call pc L st t D K S a (b + 1)
    | .inr (.inr (.inr (.inl o))) :: _ => chk ((t.1 o).1 ≠ 8) (q_call pc L st t D K S a (b + 1))
    | _ => False
def q_ivi (S : (Nat → Int32) × Nat) (a b : Nat) : Prop := if a = 1002 then (match st with
    | .inr (.inr (.inr (.inl o))) :: r => chk (qsum r ≤ 8) (chk ((t.1 o).1 = 10) (K (pc + 3) L (qr t.2.2.1 :: r) (nwT t.1 t.2.2.1 (t.1 o), nwP t.2.1 t.2.2.1, (t.2.2.1 + 1, t.2.2.2 + (t.1 o).2.toNat)) (upr D t.2.2.1 (D o))))
    | _ => False)
  else match st.drop b with
    | .inr (.inr (.inl o)) :: _ => chk ((qsT o).1 = px_o a ∧ px_o a < 10) (q_call pc L st t D K S a (b + 1))
    | .inr (.inr (.inr (.inl o))) :: _ => chk (px_o a < 10 ∧ px_o a ≠ 8) (chk ((t.1 o).1 = px_o a) (q_call pc L st t D K S a (b + 1)))
    | _ => False
def q_cp (f g : Int → Int) (sp dp n : Int) : Int → Int := fun i => if dp ≤ i ∧ i < dp + n then f (sp + (i - dp)) else g i
def q_cpa (v : qV) (F : Nat → Int → Prop) : Prop := match v with
  | .inr (.inr (.inl a)) => chk ((qsT a).1 = 10) (F a (qsT a).2)
  | .inr (.inr (.inr (.inl a))) => chk ((t.1 a).1 = 10) (F a (t.1 a).2)
  | _ => False
def q_cpy : Prop := match st with
  | .inl n :: .inl dp :: d :: .inl sp :: e :: r => q_cpa t d fun d dn => q_cpa t e fun e en => chk (qsum r ≤ 8) (chk (0 ≤ sp ∧ 0 ≤ dp ∧ 0 ≤ n ∧ sp + n ≤ en ∧ dp + n ≤ dn) (K (pc + 3) L r t (upr D d (q_cp (D e) (D d) sp dp n))))
  | _ => False
def q_mx (f : Int → Int → Int) : Prop := match st with
  | .inl y :: .inl x :: r => chk (qsum r ≤ 8) (chk (qR x) (chk (qR y) (K (pc + 3) L (qi (f x y) :: r) t D)))
  | _ => False
def q_iss (S : (Nat → Int32) × Nat) (a b : Nat) : Prop :=
  if a = 1001 then q_cpy pc L st t D K
  else if a = 1003 then q_mx pc L st t D K qmax
  else if a = 1004 then q_mx pc L st t D K qmin
  else q_call pc L st t D K S a b
def q_ret (rt : Option FieldType) : Prop := match st, rt with
  | [.inl x], some .int => Q x t D
  | [.inl x], some .boolean => chk (x = 0 ∨ x = 1) (Q x t D)
  | _, _ => False
def qstep (S : (Nat → Int32) × Nat) (rt : Option FieldType) (k : px_K) : Prop := match k.1 with
  | .iconst n => K (pc + 1) L (qi n :: st) t D
  | .bipush n => chk (-128 ≤ n ∧ n < 128) (K (pc + 2) L (qi n :: st) t D)
  | .sipush n => chk (-32768 ≤ n ∧ n < 32768) (K (pc + 3) L (qi n :: st) t D)
  | .lconst n => K (pc + 1) L (ql (n : Nat) :: st) t D
  | .ldc_w _ => K (pc + 3) L (qi k.2.2.2.2 :: st) t D
  | .ldc2_w _ => K (pc + 3) L (ql k.2.2.2.2 :: st) t D
  | .aconst_null => K (pc + 1) L (qr 0 :: st) t D
  | .iload_n i => q_ild L st t D K i (pc + 1)
  | .iload i => q_ild L st t D K i (pc + 2)
  | .lload_n i => q_lld L st t D K i (pc + 1)
  | .lload i => q_lld L st t D K i (pc + 2)
  | .aload_n i => q_ald L st t D K i (pc + 1)
  | .aload i => q_ald L st t D K i (pc + 2)
  | .istore_n i => q_ist L st t D K i (pc + 1)
  | .istore i => q_ist L st t D K i (pc + 2)
  | .lstore_n i => q_lst L st t D K i (pc + 1)
  | .lstore i => q_lst L st t D K i (pc + 2)
  | .astore_n i => q_ast L st t D K i (pc + 1)
  | .astore i => q_ast L st t D K i (pc + 2)
  | .iinc i n => match qget L i with
    | some (.inl x) => chk (i < L.length ∧ qc2 L i = false) (K (pc + 3) (L.set i (some (qi (x + n)))) st t D)
    | _ => False
  | .iadd => q_i2 pc L st t D K (fun x y => x + y)
  | .isub => q_i2 pc L st t D K (fun x y => x - y)
  | .imul => q_i2 pc L st t D K (fun x y => x * y)
  | .iand => q_i2 pc L st t D K qand
  | .ior => q_i2 pc L st t D K qor
  | .ishl => q_i2 pc L st t D K qshl
  | .ishr => q_i2 pc L st t D K qshr
  | .idiv => q_idv pc L st t D K (fun x y => x / y)
  | .irem => q_idv pc L st t D K (fun x y => x % y)
  | .ladd => q_l2 pc L st t D K (fun x y => x + y)
  | .lmul => q_l2 pc L st t D K (fun x y => x * y)
  | .land => q_lnd pc L st t D K
  | .ldiv => q_ldv pc L st t D K (fun x y => x / y)
  | .lrem => q_ldv pc L st t D K (fun x y => x % y)
  | .lcmp => q_lcm pc L st t D K
  | .i2l => match st with
    | .inl x :: r => chk (qR x) (K (pc + 1) L (ql x :: r) t D)
    | _ => False
  | .l2i => match st with
    | .inr (.inl x) :: r => K (pc + 1) L (qi x :: r) t D
    | _ => False
  | .dup => match st with
    | v :: r => chk (qcat v = 1) (K (pc + 1) L (v :: v :: r) t D)
    | _ => False
  | .dup2 => match st with
    | v :: w :: r => chk (qcat v = 1 ∧ qcat w = 1) (K (pc + 1) L (v :: w :: v :: w :: r) t D)
    | _ => False
  | .goto off => q_to pc off fun p => K p L st t D
  | .ifCond c off => q_if pc L st t D K c off
  | .if_icmp c off => q_ic pc L st t D K c off
  | .ifnonnull off => q_nn pc L st t D K off
  | .lookupswitch d ps => q_lks pc L st t D K d ps.toList
  | .tableswitch d lo hi offs => q_tbs pc L st t D K d lo hi offs.toList
  | .iaload => q_iald pc L st t D K S
  | .iastore => q_iast pc L st t D K
  | .aaload => q_aald pc L st t D K
  | .aastore => q_aast pc L st t D K
  | .arraylength => q_alen pc L st t D K S
  | .getfield _ => q_gf pc L st t D K k.2.2.1 k.2.2.2.1
  | .putfield _ => q_pf pc L st t D K k.2.2.1 k.2.2.2.1
  | .new _ => q_new pc L st t D K k.2.2.1
  | .newarray .int => q_nwa pc L st t D K
  | .checkcast _ => q_cc pc L st t D K
  | .invokespecial _ => q_isp pc L st t D K S k.2.2.1 k.2.2.2.1
  | .invokevirtual _ => q_ivi pc L st t D K S k.2.2.1 k.2.2.2.1
  | .invokestatic _ => q_iss pc L st t D K S k.2.2.1 k.2.2.2.1
  | .ireturn => q_ret st t D Q rt
  | .lreturn => match st, rt with
    | [.inr (.inl x)], some .long => Q x t D
    | _, _ => False
  | .areturn => match st, rt with
    | [.inr (.inr (.inr (.inl a)))], some (.object _) => Q a t D
    | _, _ => False
  | .return_ => match st, rt with
    | [], none => Q 0 t D
    | _, _ => False
  | _ => False
end QZ0
def vc (S : (Nat → Int32) × Nat) (m : Nat) (cuts : List Nat) (Q : Int → qT → qD → Prop) : Nat → Nat → qL → List qV → qT → qD → Prop
  | 0, pc, L, st, t, D => wp S m pc L st t D Q
  | n + 1, pc, L, st, t, D => match px_at m pc with
    | some k => qstep pc L st t D (fun pc' L' st' t' D' => if cuts.contains pc' = true then wp S m pc' L' st' t' D' Q else vc S m cuts Q n pc' L' st' t' D') Q S (px_rt m) k
    | none => False
end
section
/-! ## the rows over Int are rows of our machine -/
theorem chk_i {c : Prop} [Decidable c] {K : Prop} (h : c) (k : K) : chk c K := by unfold chk; rw [if_pos h]; exact k
theorem chk_e {c : Prop} [Decidable c] {K : Prop} (h : chk c K) : c ∧ K := by
  unfold chk at h
  by_cases hc : c
  · rw [if_pos hc] at h; exact ⟨hc, h⟩
  · rw [if_neg hc] at h; exact h.elim
theorem qEx.rfl' {t : qT} : qEx t t := ⟨Nat.le_refl _, Nat.le_refl _, fun _ _ => rfl⟩
theorem qEx.trans {t u v : qT} (h : qEx t u) (k : qEx u v) : qEx t v := ⟨Nat.le_trans h.1 k.1, Nat.le_trans h.2.1 k.2.1, fun a ha => (k.2.2 a (Nat.lt_of_lt_of_le ha h.1)).trans (h.2.2 a ha)⟩
theorem pz_mono (S : (Nat → Int32) × Nat) : ∀ (n m pc : Nat) (L : pz_L) (st : List Value) (h : pz_H) (r : Option Value × pz_H), pz_run S n m pc L st h = some r → ∀ k, n ≤ k → pz_run S k m pc L st h = some r := by
  intro n
  induction n with
  | zero => intro m pc L st h r hr; cases hr
  | succ n ih =>
    intro m pc L st h r hr k hk
    obtain ⟨k, rfl⟩ : ∃ j, k = j + 1 := ⟨k - 1, by omega⟩
    have hk' : n ≤ k := by omega
    unfold pz_run at hr ⊢
    split at hr
    · cases hr
    · rename_i kk hkk
      (try rw [hkk])
      (try dsimp only)
      split at hr
      · cases hr
      · rename_i q hq
        (try rw [hq])
        exact ih _ _ _ _ _ _ hr k hk'
      · rename_i v hv
        (try rw [hv])
        exact hr
      · rename_i q hq
        (try rw [hq])
        (try dsimp only)
        split at hr
        · cases hr
        · rename_i u hu
          (try rw [ih _ _ _ _ _ _ hu k hk'])
          exact ih _ _ _ _ _ _ hr k hk'
section QZ1
variable {S : (Nat → Int32) × Nat} {m pc : Nat} {k : px_K} {L : qL} {st : List qV} {t : qT} {D : qD} {Q : Int → qT → qD → Prop} {K : qK}
theorem wp_mono {Q' : Int → qT → qD → Prop} (h : wp S m pc L st t D Q) (hq : ∀ x t' D', qSt t' → qEx t t' → Q x t' D' → Q' x t' D') : wp S m pc L st t D Q' := by
  intro s
  obtain ⟨N, x, t', D', h1, h2, h3, h4⟩ := h s
  exact ⟨N, x, t', D', h1, h2, h3, hq _ _ _ h2 h3 h4⟩
theorem wp_st (h : qSt t → wp S m pc L st t D Q) : wp S m pc L st t D Q := fun s => h s s
theorem wp_cg {L' : qL} {st' : List qV} (hL : qcl L = qcl L') (hs : st.map qc = st'.map qc) (h : wp S m pc L st t D Q) : wp S m pc L' st' t D Q := by
  intro s
  obtain ⟨N, x, t', D', h1, h2, h3, h4⟩ := h s
  exact ⟨N, x, t', D', by rw [← hL, ← hs]; exact h1, h2, h3, h4⟩
theorem wp_go {pc' : Nat} {L' : qL} {st' : List qV} {t' : qT} {D' : qD} (hk : px_at m pc = some k) (hs : qSt t → pz_step S (px_rt m) k pc (qcl L) (st.map qc) (qH t D) = some (.inl (pc', qcl L', st'.map qc, qH t' D'))) (hS : qSt t → qSt t') (hE : qSt t → qEx t t') (h : wp S m pc' L' st' t' D' Q) : wp S m pc L st t D Q := by
  intro s
  obtain ⟨N, x, t'', D'', h1, h2, h3, h4⟩ := h (hS s)
  refine ⟨N + 1, x, t'', D'', ?_, h2, (hE s).trans h3, h4⟩
  unfold pz_run
  rw [hk]
  dsimp only
  rw [hs s]
  exact h1
theorem wp_gs {pc' : Nat} {L' : qL} {st' : List qV} {D' : qD} (hk : px_at m pc = some k) (hs : qSt t → pz_step S (px_rt m) k pc (qcl L) (st.map qc) (qH t D) = some (.inl (pc', qcl L', st'.map qc, qH t D'))) (h : wp S m pc' L' st' t D' Q) : wp S m pc L st t D Q :=
  wp_go hk hs id (fun _ => qEx.rfl') h
theorem wp_rt {x : Int} (hk : px_at m pc = some k) (hs : qSt t → pz_step S (px_rt m) k pc (qcl L) (st.map qc) (qH t D) = some (.inr (.inl (qcR (px_rt m) x)))) (h : Q x t D) : wp S m pc L st t D Q := by
  intro s
  refine ⟨1, x, t, D, ?_, s, qEx.rfl', h⟩
  unfold pz_run
  rw [hk]
  dsimp only
  rw [hs s]
theorem qcl_len (L : qL) : (qcl L).length = L.length := List.length_map _
theorem qcl_get (L : qL) (i : Nat) : pz_get (qcl L) i = (qget L i).map qc := by
  unfold pz_get qget qcl
  rw [List.getElem?_map]
  cases L[i]? with
  | none => rfl
  | some o => cases o <;> rfl
theorem qc_cat (v : qV) : (qc v).category = qcat v := by
  rcases v with x | x | x | x | x
  · rfl
  · rfl
  · rfl
  · show (if x = 0 then Value.null else Value.ref x).category = 1
    split <;> rfl
  · rfl
theorem qcl_c2 (L : qL) (i : Nat) : pz_c2 (qcl L) i = qc2 L i := by
  cases i with
  | zero => rfl
  | succ k =>
    show (match pz_get (qcl L) k with | some v => v.category == 2 | none => false) = (match qget L k with | some v => qcat v == 2 | none => false)
    rw [qcl_get]
    cases qget L k with
    | none => rfl
    | some v => show ((qc v).category == 2) = _; rw [qc_cat]
theorem qcl_set (L : qL) (i : Nat) (v : Option qV) : (qcl L).set i (v.map qc) = qcl (L.set i v) := by
  unfold qcl
  rw [List.map_set]
theorem qcl_s1 {L : qL} {i : Nat} (v : qV) (h1 : i < L.length) (h2 : qc2 L i = false) : pz_s1 (qcl L) i (qc v) = some (qcl (L.set i (some v))) := by
  unfold pz_s1
  rw [qcl_len, qcl_c2, h2, show Nat.blt i L.length = true from Nat.blt_eq.mpr h1]
  exact congrArg some (qcl_set L i (some v))
theorem qcl_s2 {L : qL} {i : Nat} (v : qV) (h1 : i + 1 < L.length) (h2 : qc2 L i = false) : pz_s2 (qcl L) i (qc v) = some (qcl ((L.set i (some v)).set (i + 1) none)) := by
  unfold pz_s2
  rw [qcl_len, qcl_c2, h2, show Nat.blt (i + 1) L.length = true from Nat.blt_eq.mpr h1]
  exact congrArg some (by rw [show some (qc v) = (some v : Option qV).map qc from rfl, qcl_set, show (none : Option Value) = (none : Option qV).map qc from rfl, qcl_set])
theorem qsum_eq (st : List qV) : pz_sum (st.map qc) = qsum st := by
  unfold pz_sum qsum
  rw [List.map_map]
  congr 1
  exact List.map_congr_left fun v _ => qc_cat v
theorem qsl_eq (vs : List qV) : pz_sl (vs.map qc) = qcl (qsl vs) := by
  induction vs with
  | nil => rfl
  | cons v vs ih =>
    show (if (qc v).category = 2 then some (qc v) :: none :: pz_sl (vs.map qc) else some (qc v) :: pz_sl (vs.map qc)) = qcl (if qcat v = 2 then some v :: none :: qsl vs else some v :: qsl vs)
    rw [qc_cat, ih]
    split <;> rfl
theorem qin_eq (n : Nat) (vs : List qV) : pz_in n (vs.map qc) = qcl (qin n vs) := by
  unfold pz_in qin
  rw [qsl_eq, qcl_len]
  show _ = List.map _ (_ ++ _)
  rw [List.map_append, List.map_replicate]
  rfl
/-! ### the heap -/
theorem i32_nat {j : Int} (h : qR j) : (Int32.ofInt j).toNatClampNeg = j.toNat := Int32.toNatClampNeg_ofInt_of_le h.1 h.2
theorem i32_int {j : Int} (h : qR j) : (Int32.ofInt j).toInt = j := Int32.toInt_ofInt_of_le h.1 h.2
theorem i64_int {j : Int} (h : qR64 j) : (Int64.ofInt j).toInt = j := Int64.toInt_ofInt_of_le h.1 h.2
theorem i32_lt {x y : Int} (hx : qR x) (hy : qR y) : (Int32.ofInt x < Int32.ofInt y) ↔ x < y := by
  rw [Int32.lt_iff_toInt_lt, i32_int hx, i32_int hy]
theorem i32_le {x y : Int} (hx : qR x) (hy : qR y) : (Int32.ofInt x ≤ Int32.ofInt y) ↔ x ≤ y := by
  rw [Int32.le_iff_toInt_le, i32_int hx, i32_int hy]
theorem i32_eq {x y : Int} (hx : qR x) (hy : qR y) : (Int32.ofInt x = Int32.ofInt y) ↔ x = y := by
  constructor
  · intro h
    have := congrArg Int32.toInt h
    rwa [i32_int hx, i32_int hy] at this
  · rintro rfl; rfl
theorem pz_ixq {j n : Int} (h : 0 ≤ j ∧ j < n) (hn : n < 2147483648) : pz_ixd (Int32.ofInt j) n.toNat = true := by
  have hr : qR j := ⟨by omega, by omega⟩
  unfold pz_ixd
  rw [i32_nat hr, show (decide (Int32.ofInt j < 0)) = false from decide_eq_false (by rw [show (0 : Int32) = Int32.ofInt 0 from rfl, i32_lt hr ⟨by decide, by decide⟩]; omega)]
  rw [show Nat.blt j.toNat n.toNat = true from Nat.blt_eq.mpr (by omega)]
  rfl
theorem qH_1 (a : Nat) : (qH t D).1 a = qE t.1 t.2.1 D a := rfl
theorem qH_arr (s : qSt t) {a : Nat} (h : (t.1 a).1 = 10) : pz_arr (qH t D) a = some ((t.1 a).2.toNat, fun i : Nat => Int32.ofInt (D a i)) := by
  have hl : a < t.2.2.1 := s.2.1 a (by rw [h]; decide)
  unfold pz_arr
  rw [qH_1, show qE t.1 t.2.1 D a = .inl ((t.1 a).2.toNat, fun i : Nat => Int32.ofInt (D a i)) from by unfold qE; rw [if_pos h]]
  exact if_pos hl
theorem qH_arq (s : qSt t) {a : Nat} (h : (t.1 a).1 = 11) : pz_arq (qH t D) a = some ((t.1 a).2.toNat, fun i : Nat => if t.2.1 a i = 0 then none else some (t.2.1 a i)) := by
  have hl : a < t.2.2.1 := s.2.1 a (by rw [h]; decide)
  unfold pz_arq
  rw [qH_1, show qE t.1 t.2.1 D a = .inr (.inl ((t.1 a).2.toNat, fun i : Nat => if t.2.1 a i = 0 then none else some (t.2.1 a i))) from by unfold qE; rw [h, if_neg (by decide), if_pos rfl]]
  exact if_pos hl
def qFs (t : qT) (D : qD) (c a : Nat) : List Value := (List.range (px_N c)).map fun b => qF (px_ty c b) (t.2.1 a b) (D a b)
theorem qH_obj (s : qSt t) {a c : Nat} (h : (t.1 a).1 = c) (hc : c < 10) : pz_obj (qH t D) a c = some (qFs t D c a) := by
  have hl : a < t.2.2.1 := s.2.1 a (by rw [h]; omega)
  unfold pz_obj
  rw [qH_1, show qE t.1 t.2.1 D a = .inr (.inr (c, qFs t D c a)) from by unfold qE qFs; rw [h, if_neg (by omega), if_neg (by omega), if_neg (by omega)]]
  exact if_pos ⟨rfl, hl⟩
theorem qFs_get {c a b : Nat} (hb : b < px_N c) : (qFs t D c a)[b]? = some (qF (px_ty c b) (t.2.1 a b) (D a b)) := by
  unfold qFs
  rw [List.getElem?_map, List.getElem?_range hb]
  rfl
theorem qH_upa {a : Nat} {j x : Int} (h : (t.1 a).1 = 10) (hj : 0 ≤ j) : pz_up (qH t D) a (.inl ((t.1 a).2.toNat, upd (fun i : Nat => Int32.ofInt (D a i)) j.toNat (Int32.ofInt x))) = qH t (up D a j x) := by
  unfold pz_up
  refine Prod.ext (funext fun b => ?_) rfl
  show (if b = a then _ else qE t.1 t.2.1 D b) = qE t.1 t.2.1 (up D a j x) b
  by_cases hb : b = a
  · subst hb
    rw [if_pos rfl]
    unfold qE
    rw [if_pos h]
    refine congrArg _ (Prod.ext rfl (funext fun i => ?_))
    show (if i = j.toNat then _ else _) = Int32.ofInt (if b = b ∧ (i : Int) = j then x else D b i)
    by_cases hi : i = j.toNat
    · rw [if_pos hi, if_pos ⟨rfl, by omega⟩]
    · rw [if_neg hi, if_neg (fun q => hi (by omega))]
  · rw [if_neg hb]
    have e : ∀ i, up D a j x b i = D b i := fun i => if_neg (fun q => hb q.1)
    unfold qE
    simp only [e]
theorem qH_upo {a c b : Nat} {x : Int} (h : (t.1 a).1 = c) (hc : c < 10) (hb : b < px_N c) {v : Value} (hv : qF (px_ty c b) (t.2.1 a b) x = v) : pz_up (qH t D) a (.inr (.inr (c, (qFs t D c a).set b v))) = qH t (up D a b x) := by
  unfold pz_up
  refine Prod.ext (funext fun d => ?_) rfl
  show (if d = a then _ else qE t.1 t.2.1 D d) = qE t.1 t.2.1 (up D a b x) d
  by_cases hd : d = a
  · subst hd
    rw [if_pos rfl]
    unfold qE
    rw [h, if_neg (by omega), if_neg (by omega), if_neg (by omega)]
    refine congrArg (fun z => Sum.inr (Sum.inr (c, z))) ?_
    apply List.ext_getElem?
    intro i
    rw [List.getElem?_set]
    unfold qFs
    rw [List.getElem?_map, List.getElem?_map, List.length_map, List.length_range]
    by_cases hi : b = i
    · subst hi
      rw [if_pos rfl, if_pos hb, List.getElem?_range hb]
      show some v = some (qF _ _ (if d = d ∧ (b : Int) = b then x else _))
      rw [if_pos ⟨rfl, rfl⟩, hv]
    · rw [if_neg hi]
      by_cases hi2 : i < px_N c
      · rw [List.getElem?_range hi2]
        show some (qF _ _ (D d i)) = some (qF _ _ (if d = d ∧ (i : Int) = b then x else D d i))
        rw [if_neg (fun q => hi (by omega))]
      · rw [List.getElem?_eq_none (by rw [List.length_range]; omega)]
        rfl
  · rw [if_neg hd]
    have e : ∀ i, up D a b x d i = D d i := fun i => if_neg (fun q => hd q.1)
    unfold qE
    simp only [e]
end QZ1
end
section
/-! ### one row each -/
theorem qsP_lt {a b v : Nat} (h : qsP a b = some v) : a < 49 ∧ (qsT a).1 < 10 ∧ v ≠ 0 := by
  unfold qsP at h
  split at h
  · rename_i l hl
    have hm : (a, l) ∈ qSP := by
      have := List.lookup_eq_some_iff.mp hl
      obtain ⟨l1, l2, e, -⟩ := this
      rw [e]; exact List.mem_append_right _ List.mem_cons_self
    have hm2 : (b, v) ∈ l := by
      have := List.lookup_eq_some_iff.mp h
      obtain ⟨l1, l2, e, -⟩ := this
      rw [e]; exact List.mem_append_right _ List.mem_cons_self
    have key : (qSP.all fun q => decide (q.1 < 49 ∧ (qsT q.1).1 < 10) && q.2.all fun w => decide (w.2 ≠ 0)) = true := by decide +kernel
    have k1 := List.all_eq_true.mp key _ hm
    rw [Bool.and_eq_true] at k1
    exact ⟨(of_decide_eq_true k1.1).1, (of_decide_eq_true k1.1).2, of_decide_eq_true (List.all_eq_true.mp k1.2 _ hm2)⟩
  · cases h
theorem qSt.sT {t : qT} (s : qSt t) {a k : Nat} (h : (qsT a).1 = k) (hk : k ≠ 12) : t.1 a = qsT a := by
  by_cases ha : a < 49
  · exact s.2.2.1 a ha
  · exfalso
    apply hk
    rw [← h]
    unfold qsT
    rw [List.getD_eq_getElem?_getD, List.getElem?_eq_none (by rw [show qST.length = 49 from rfl]; omega)]
    rfl
theorem qSt.nz {t : qT} (s : qSt t) {a : Nat} (h : (t.1 a).1 ≠ 8) : a ≠ 0 := by
  rintro rfl
  exact h (by rw [s.2.2.1 0 (by decide)]; rfl)
theorem qSt.upP {t : qT} (s : qSt t) {a : Nat} {j : Int} {v : Nat} (h : ∀ b : Nat, (b : Int) = j → qsP a b = none) : qSt (t.1, upP t.2.1 a j v, t.2.2) := by
  refine ⟨s.1, s.2.1, s.2.2.1, fun c b w hw => ?_, s.2.2.2.2⟩
  show (if c = a ∧ (b : Int) = j then v else t.2.1 c b) = w
  rw [if_neg]
  · exact s.2.2.2.1 c b w hw
  · rintro ⟨rfl, e⟩
    rw [h b e] at hw
    cases hw
theorem qSt.nw {t : qT} (s : qSt t) {k : Nat × Int} {z : Nat} (hk : k.1 ≠ 12) (hz : 0 ≤ k.2 ∧ k.2 < 2147483648) : qSt (nwT t.1 t.2.2.1 k, nwP t.2.1 t.2.2.1, (t.2.2.1 + 1, z)) := by
  obtain ⟨s1, s2, s3, s4, s5⟩ := s
  refine ⟨by show 49 ≤ t.2.2.1 + 1; omega, fun a ha => ?_, fun a ha => ?_, fun c b w hw => ?_, fun a => ?_⟩
  · show a < t.2.2.1 + 1
    by_cases h : a = t.2.2.1
    · omega
    · have := s2 a (by
        have ha : (if a = t.2.2.1 then k else t.1 a).1 ≠ 12 := ha
        rwa [if_neg h] at ha)
      omega
  · show (if a = t.2.2.1 then k else t.1 a) = qsT a
    rw [if_neg (by omega)]
    exact s3 a ha
  · show (if c = t.2.2.1 then 0 else t.2.1 c b) = w
    rw [if_neg (by have := (qsP_lt hw).1; omega)]
    exact s4 c b w hw
  · show 0 ≤ (if a = t.2.2.1 then k else t.1 a).2 ∧ (if a = t.2.2.1 then k else t.1 a).2 < 2147483648
    split
    · exact hz
    · exact s5 a
theorem qEx.nw {t : qT} {k : Nat × Int} {P : Nat → Int → Nat} {z : Nat} (hz : t.2.2.2 ≤ z) : qEx t (nwT t.1 t.2.2.1 k, P, (t.2.2.1 + 1, z)) :=
  ⟨Nat.le_succ _, hz, fun a ha => if_neg (by omega)⟩
section QZ2
variable {S : (Nat → Int32) × Nat} {m pc : Nat} {k : px_K} {L : qL} {st : List qV} {t : qT} {D : qD} {Q : Int → qT → qD → Prop} {K : qK} {z : Nat × (Nat × (Nat × Int))}
theorem qH_upp {a c b : Nat} {v : Nat} (h : (t.1 a).1 = c) (hc : c < 10) (hb : b < px_N c) {w : Value} (hv : qF (px_ty c b) v (D a b) = w) : pz_up (qH t D) a (.inr (.inr (c, (qFs t D c a).set b w))) = qH (t.1, upP t.2.1 a b v, t.2.2) D := by
  unfold pz_up
  refine Prod.ext (funext fun d => ?_) rfl
  show (if d = a then _ else qE t.1 t.2.1 D d) = qE t.1 (upP t.2.1 a b v) D d
  by_cases hd : d = a
  · subst hd
    rw [if_pos rfl]
    unfold qE
    rw [h, if_neg (by omega), if_neg (by omega), if_neg (by omega)]
    refine congrArg (fun z => Sum.inr (Sum.inr (c, z))) ?_
    apply List.ext_getElem?
    intro i
    rw [List.getElem?_set]
    unfold qFs
    rw [List.getElem?_map, List.getElem?_map, List.length_map, List.length_range]
    by_cases hi : b = i
    · subst hi
      rw [if_pos rfl, if_pos hb, List.getElem?_range hb]
      show some w = some (qF _ (if d = d ∧ (b : Int) = b then v else _) _)
      rw [if_pos ⟨rfl, rfl⟩, hv]
    · rw [if_neg hi]
      by_cases hi2 : i < px_N c
      · rw [List.getElem?_range hi2]
        show some (qF _ (t.2.1 d i) _) = some (qF _ (if d = d ∧ (i : Int) = b then v else t.2.1 d i) _)
        rw [if_neg (fun q => hi (by omega))]
      · rw [List.getElem?_eq_none (by rw [List.length_range]; omega)]
        rfl
  · rw [if_neg hd]
    have e : ∀ i, upP t.2.1 a b v d i = t.2.1 d i := fun i => if_neg (fun q => hd q.1)
    unfold qE
    simp only [e]
theorem qH_upq {a : Nat} {j : Int} {v : Nat} {w : Option Nat} (h : (t.1 a).1 = 11) (hj : 0 ≤ j) (hv : (if v = 0 then none else some v) = w) : pz_up (qH t D) a (.inr (.inl ((t.1 a).2.toNat, va_up (fun i : Nat => if t.2.1 a i = 0 then none else some (t.2.1 a i)) j.toNat w))) = qH (t.1, upP t.2.1 a j v, t.2.2) D := by
  unfold pz_up
  refine Prod.ext (funext fun b => ?_) rfl
  show (if b = a then _ else qE t.1 t.2.1 D b) = qE t.1 (upP t.2.1 a j v) D b
  by_cases hb : b = a
  · subst hb
    rw [if_pos rfl]
    unfold qE
    rw [if_neg (by rw [h]; decide), if_pos h]
    refine congrArg (fun z => Sum.inr (Sum.inl ((t.1 b).2.toNat, z))) (funext fun i => ?_)
    show (if i = j.toNat then w else _) = if (if b = b ∧ (i : Int) = j then v else t.2.1 b i) = 0 then none else some (if b = b ∧ (i : Int) = j then v else t.2.1 b i)
    by_cases hi : i = j.toNat
    · have e1 : (if b = b ∧ (i : Int) = j then v else t.2.1 b i) = v := if_pos ⟨rfl, by omega⟩
      rw [e1, hv, if_pos hi]
    · have e1 : (if b = b ∧ (i : Int) = j then v else t.2.1 b i) = t.2.1 b i := if_neg (fun q => hi (by omega))
      rw [e1, if_neg hi]
  · rw [if_neg hb]
    have e : ∀ i, upP t.2.1 a j v b i = t.2.1 b i := fun i => if_neg (fun q => hb q.1)
    unfold qE
    simp only [e]
theorem qH_nw {e : pz_E} {k : Nat × Int} {n : Nat} {f : Int → Int} (he : e = qE (nwT t.1 t.2.2.1 k) (nwP t.2.1 t.2.2.1) (upr D t.2.2.1 f) t.2.2.1) : pz_nw (qH t D) e n = qH (nwT t.1 t.2.2.1 k, nwP t.2.1 t.2.2.1, (t.2.2.1 + 1, t.2.2.2 + n)) (upr D t.2.2.1 f) := by
  unfold pz_nw
  refine Prod.ext (funext fun b => ?_) rfl
  show (if b = t.2.2.1 then e else qE t.1 t.2.1 D b) = qE _ _ _ b
  by_cases hb : b = t.2.2.1
  · subst hb
    rw [if_pos rfl, he]
  · rw [if_neg hb]
    have e1 : nwT t.1 t.2.2.1 k b = t.1 b := if_neg hb
    have e2 : ∀ i, nwP t.2.1 t.2.2.1 b i = t.2.1 b i := fun i => if_neg hb
    have e3 : upr D t.2.2.1 f b = D b := if_neg hb
    unfold qE
    simp only [e1, e2, e3]
theorem nwT_s {T : Nat → Nat × Int} {a : Nat} {k : Nat × Int} : nwT T a k a = k := if_pos rfl
theorem nwP_s {P : Nat → Int → Nat} {a : Nat} {i : Int} : nwP P a a i = 0 := if_pos rfl
theorem upr_s {D : qD} {a : Nat} {f : Int → Int} : upr D a f a = f := if_pos rfl
theorem qE_arr {T : Nat → Nat × Int} {P : Nat → Int → Nat} {f : Int → Int} {a : Nat} {k : Nat × Int} (h : k.1 = 10) : qE (nwT T a k) (nwP P a) (upr D a f) a = .inl (k.2.toNat, fun i : Nat => Int32.ofInt (f i)) := by
  unfold qE
  rw [nwT_s, if_pos h, upr_s]
theorem px_df_eq {c : Nat} (hc : c < 10) : (List.range (px_N c)).map (fun b => qF (px_ty c b) 0 0) = px_df c := px_c10 (P := fun c => (List.range (px_N c)).map (fun b => qF (px_ty c b) 0 0) = px_df c) rfl rfl rfl rfl rfl rfl rfl rfl rfl rfl hc
theorem qE_obj {T : Nat → Nat × Int} {P : Nat → Int → Nat} {a c : Nat} (hc : c < 10) : qE (nwT T a (c, 0)) (nwP P a) (upr D a (fun _ => 0)) a = .inr (.inr (c, px_df c)) := by
  unfold qE
  rw [nwT_s]
  dsimp only
  rw [if_neg (by omega), if_neg (by omega), if_neg (by omega), ← px_df_eq hc]
  refine congrArg (fun z => Sum.inr (Sum.inr (c, z))) (List.map_congr_left fun b _ => ?_)
  rw [nwP_s, upr_s]
theorem qH_cpy {d e : Nat} {sp dp n : Int} (hd : (t.1 d).1 = 10) (h1 : 0 ≤ sp) (h2 : 0 ≤ dp) (h3 : 0 ≤ n) : pz_up (qH t D) d (.inl ((t.1 d).2.toNat, va_cpy (fun i : Nat => Int32.ofInt (D e i)) (fun i : Nat => Int32.ofInt (D d i)) sp.toNat dp.toNat n.toNat)) = qH t (upr D d (q_cp (D e) (D d) sp dp n)) := by
  unfold pz_up
  refine Prod.ext (funext fun b => ?_) rfl
  show (if b = d then _ else qE t.1 t.2.1 D b) = qE t.1 t.2.1 (upr D d (q_cp (D e) (D d) sp dp n)) b
  by_cases hb : b = d
  · subst hb
    rw [if_pos rfl]
    unfold qE
    rw [if_pos hd, upr_s]
    refine congrArg _ (Prod.ext rfl (funext fun i => ?_))
    show (if dp.toNat ≤ i ∧ i < dp.toNat + n.toNat then Int32.ofInt (D e ((sp.toNat + (i - dp.toNat) : Nat) : Int)) else Int32.ofInt (D b i)) = Int32.ofInt (if dp ≤ (i : Int) ∧ (i : Int) < dp + n then D e (sp + ((i : Int) - dp)) else D b i)
    by_cases hi : dp.toNat ≤ i ∧ i < dp.toNat + n.toNat
    · rw [if_pos hi, if_pos (by omega), show ((sp.toNat + (i - dp.toNat) : Nat) : Int) = sp + ((i : Int) - dp) by omega]
    · rw [if_neg hi, if_neg (by omega)]
  · rw [if_neg hb]
    have e3 : upr D d (q_cp (D e) (D d) sp dp n) b = D b := if_neg hb
    unfold qE
    simp only [e3]
/-! the rows -/
theorem s_ild {i pc' : Nat} (HK : ∀ pc' L' st' t' D', K pc' L' st' t' D' → wp S m pc' L' st' t' D' Q) (hk : px_at m pc = some k) (hs : ∀ h, pz_step S (px_rt m) k pc (qcl L) (st.map qc) h = pz_ild i pc' (qcl L) (st.map qc) h) (h : q_ild L st t D K i pc') : wp S m pc L st t D Q := by
  unfold q_ild at h
  split at h
  · rename_i x hx
    refine wp_gs hk (fun s => ?_) (HK _ _ _ _ _ h)
    rw [hs]; unfold pz_ild; rw [qcl_get, hx]; rfl
  · exact h.elim
theorem s_lld {i pc' : Nat} (HK : ∀ pc' L' st' t' D', K pc' L' st' t' D' → wp S m pc' L' st' t' D' Q) (hk : px_at m pc = some k) (hs : ∀ h, pz_step S (px_rt m) k pc (qcl L) (st.map qc) h = pz_lld i pc' (qcl L) (st.map qc) h) (h : q_lld L st t D K i pc') : wp S m pc L st t D Q := by
  unfold q_lld at h
  split at h
  · rename_i x hx
    refine wp_gs hk (fun s => ?_) (HK _ _ _ _ _ h)
    rw [hs]; unfold pz_lld; rw [qcl_get, hx]; rfl
  · exact h.elim
theorem qc_ref (v : Nat ⊕ (Nat ⊕ Unit)) : (∃ a, qc (.inr (.inr v)) = .ref a) ∨ qc (.inr (.inr v)) = .null ∨ qc (.inr (.inr v)) = .retAddr 0 := by
  rcases v with x | x | x
  · exact .inl ⟨x, rfl⟩
  · by_cases h : x = 0
    · exact .inr (.inl (if_pos h))
    · exact .inl ⟨x, if_neg h⟩
  · exact .inr (.inr rfl)
theorem s_ald {i pc' : Nat} (HK : ∀ pc' L' st' t' D', K pc' L' st' t' D' → wp S m pc' L' st' t' D' Q) (hk : px_at m pc = some k) (hs : ∀ h, pz_step S (px_rt m) k pc (qcl L) (st.map qc) h = pz_ald i pc' (qcl L) (st.map qc) h) (h : q_ald L st t D K i pc') : wp S m pc L st t D Q := by
  unfold q_ald at h
  split at h
  · rename_i x hx
    refine wp_gs hk (fun s => ?_) (HK _ _ _ _ _ h)
    rw [hs]; unfold pz_ald; rw [qcl_get, hx, List.map_cons, Option.map_some]
    rcases qc_ref x with ⟨a, e⟩ | e | e <;> rw [e] <;> rfl
  · exact h.elim
theorem s_ist {i pc' : Nat} (HK : ∀ pc' L' st' t' D', K pc' L' st' t' D' → wp S m pc' L' st' t' D' Q) (hk : px_at m pc = some k) (hs : ∀ h, pz_step S (px_rt m) k pc (qcl L) (st.map qc) h = pz_ist i pc' (qcl L) (st.map qc) h) (h : q_ist L st t D K i pc') : wp S m pc L st t D Q := by
  unfold q_ist at h
  split at h
  · rename_i x r
    obtain ⟨⟨c1, c2⟩, h⟩ := chk_e h
    refine wp_gs hk (fun s => ?_) (HK _ _ _ _ _ h)
    rw [hs]
    show (pz_s1 (qcl L) i (qc (qi x))).bind _ = _
    rw [qcl_s1 (qi x) c1 c2]; rfl
  · exact h.elim
theorem s_lst {i pc' : Nat} (HK : ∀ pc' L' st' t' D', K pc' L' st' t' D' → wp S m pc' L' st' t' D' Q) (hk : px_at m pc = some k) (hs : ∀ h, pz_step S (px_rt m) k pc (qcl L) (st.map qc) h = pz_lst i pc' (qcl L) (st.map qc) h) (h : q_lst L st t D K i pc') : wp S m pc L st t D Q := by
  unfold q_lst at h
  split at h
  · rename_i x r
    obtain ⟨⟨c1, c2⟩, h⟩ := chk_e h
    refine wp_gs hk (fun s => ?_) (HK _ _ _ _ _ h)
    rw [hs]
    show (pz_s2 (qcl L) i (qc (ql x))).bind _ = _
    rw [qcl_s2 (ql x) c1 c2]; rfl
  · exact h.elim
theorem s_ast {i pc' : Nat} (HK : ∀ pc' L' st' t' D', K pc' L' st' t' D' → wp S m pc' L' st' t' D' Q) (hk : px_at m pc = some k) (hs : ∀ h, pz_step S (px_rt m) k pc (qcl L) (st.map qc) h = pz_ast i pc' (qcl L) (st.map qc) h) (h : q_ast L st t D K i pc') : wp S m pc L st t D Q := by
  unfold q_ast at h
  split at h
  · rename_i a r
    obtain ⟨⟨c1, c2⟩, h⟩ := chk_e h
    refine wp_gs hk (fun s => ?_) (HK _ _ _ _ _ h)
    rw [hs]
    show (pz_s1 (qcl L) i (qc (qs a))).bind _ = _
    rw [qcl_s1 (qs a) c1 c2]; rfl
  · rename_i a r
    obtain ⟨⟨c1, c2⟩, h⟩ := chk_e h
    refine wp_gs hk (fun s => ?_) (HK _ _ _ _ _ h)
    rw [hs]
    have e := qcl_s1 (qr a) c1 c2
    unfold pz_ast
    rw [List.map_cons]
    by_cases ha : a = 0
    · have : qc (qr a) = .null := if_pos ha
      rw [this] at e ⊢
      show (pz_s1 (qcl L) i .null).bind _ = _
      rw [e]; rfl
    · have : qc (qr a) = .ref a := if_neg ha
      rw [this] at e ⊢
      show (pz_s1 (qcl L) i (.ref a)).bind _ = _
      rw [e]; rfl
  · exact h.elim
theorem s_i2 {f : Int → Int → Int} {g : Int32 → Int32 → Option Int32} (hg : ∀ x y, g (Int32.ofInt x) (Int32.ofInt y) = some (Int32.ofInt (f x y))) (HK : ∀ pc' L' st' t' D', K pc' L' st' t' D' → wp S m pc' L' st' t' D' Q) (hk : px_at m pc = some k) (hs : ∀ h, pz_step S (px_rt m) k pc (qcl L) (st.map qc) h = pz_i2 g pc (qcl L) (st.map qc) h) (h : q_i2 pc L st t D K f) : wp S m pc L st t D Q := by
  unfold q_i2 at h
  split at h
  · rename_i y x r
    refine wp_gs hk (fun s => ?_) (HK _ _ _ _ _ h)
    rw [hs]
    show (g (Int32.ofInt x) (Int32.ofInt y)).bind _ = _
    rw [hg]; rfl
  · exact h.elim
theorem s_idv {f : Int → Int → Int} {g : Int32 → Int32 → Option Int32} (hg : ∀ x y, (0 ≤ x ∧ x < 2147483648) → (0 < y ∧ y < 2147483648) → g (Int32.ofInt x) (Int32.ofInt y) = some (Int32.ofInt (f x y))) (HK : ∀ pc' L' st' t' D', K pc' L' st' t' D' → wp S m pc' L' st' t' D' Q) (hk : px_at m pc = some k) (hs : ∀ h, pz_step S (px_rt m) k pc (qcl L) (st.map qc) h = pz_i2 g pc (qcl L) (st.map qc) h) (h : q_idv pc L st t D K f) : wp S m pc L st t D Q := by
  unfold q_idv at h
  split at h
  · rename_i y x r
    obtain ⟨c1, h⟩ := chk_e h
    obtain ⟨c2, h⟩ := chk_e h
    refine wp_gs hk (fun s => ?_) (HK _ _ _ _ _ h)
    rw [hs]
    show (g (Int32.ofInt x) (Int32.ofInt y)).bind _ = _
    rw [hg x y c1 c2]; rfl
  · exact h.elim
theorem s_l2 {f : Int → Int → Int} {g : Int64 → Int64 → Option Int64} (hg : ∀ x y, g (Int64.ofInt x) (Int64.ofInt y) = some (Int64.ofInt (f x y))) (HK : ∀ pc' L' st' t' D', K pc' L' st' t' D' → wp S m pc' L' st' t' D' Q) (hk : px_at m pc = some k) (hs : ∀ h, pz_step S (px_rt m) k pc (qcl L) (st.map qc) h = pz_l2 g pc (qcl L) (st.map qc) h) (h : q_l2 pc L st t D K f) : wp S m pc L st t D Q := by
  unfold q_l2 at h
  split at h
  · rename_i y x r
    refine wp_gs hk (fun s => ?_) (HK _ _ _ _ _ h)
    rw [hs]
    show (g (Int64.ofInt x) (Int64.ofInt y)).bind _ = _
    rw [hg]; rfl
  · exact h.elim
theorem s_ldv {f : Int → Int → Int} {g : Int64 → Int64 → Option Int64} (hg : ∀ x y, (0 ≤ x ∧ x < 9223372036854775808) → (0 < y ∧ y < 9223372036854775808) → g (Int64.ofInt x) (Int64.ofInt y) = some (Int64.ofInt (f x y))) (HK : ∀ pc' L' st' t' D', K pc' L' st' t' D' → wp S m pc' L' st' t' D' Q) (hk : px_at m pc = some k) (hs : ∀ h, pz_step S (px_rt m) k pc (qcl L) (st.map qc) h = pz_l2 g pc (qcl L) (st.map qc) h) (h : q_ldv pc L st t D K f) : wp S m pc L st t D Q := by
  unfold q_ldv at h
  split at h
  · rename_i y x r
    obtain ⟨c1, h⟩ := chk_e h
    obtain ⟨c2, h⟩ := chk_e h
    refine wp_gs hk (fun s => ?_) (HK _ _ _ _ _ h)
    rw [hs]
    show (g (Int64.ofInt x) (Int64.ofInt y)).bind _ = _
    rw [hg x y c1 c2]; rfl
  · exact h.elim
theorem s_lnd {g : Int64 → Int64 → Option Int64} (hg : ∀ x, g (Int64.ofInt x) (Int64.ofInt 2147483647) = some (Int64.ofInt (x % 2147483648))) (HK : ∀ pc' L' st' t' D', K pc' L' st' t' D' → wp S m pc' L' st' t' D' Q) (hk : px_at m pc = some k) (hs : ∀ h, pz_step S (px_rt m) k pc (qcl L) (st.map qc) h = pz_l2 g pc (qcl L) (st.map qc) h) (h : q_lnd pc L st t D K) : wp S m pc L st t D Q := by
  unfold q_lnd at h
  split at h
  · rename_i y x r
    obtain ⟨c1, h⟩ := chk_e h
    refine wp_gs hk (fun s => ?_) (HK _ _ _ _ _ h)
    subst c1
    rw [hs]
    show (g (Int64.ofInt x) (Int64.ofInt 2147483647)).bind _ = _
    rw [hg x]; rfl
  · exact h.elim
theorem qto_e {off : Int} {f : Nat → Prop} (h : q_to pc off f) : ∃ p, pz_tg pc off = some p ∧ f p := by
  unfold q_to at h
  split at h
  · exact ⟨_, by assumption, h⟩
  · exact h.elim
theorem pz_jq {off : Int} {p : Nat} (h : pz_tg pc off = some p) (L : pz_L) (st : List Value) (H : pz_H) : pz_jp pc off L st H = some (.inl (p, L, st, H)) := by
  unfold pz_jp
  rw [h]; rfl
theorem pz_bq {b : Bool} {off : Int} {p : Nat} (h : pz_tg pc off = some p) (L : pz_L) (st : List Value) (H : pz_H) : pz_br b pc off L st H = some (.inl (if b = true then p else pc + 3, L, st, H)) := by
  unfold pz_br
  rw [h]
  cases b <;> rfl
theorem qbr_e {c : Jvm.ClassFile.Cond} {x y : Int} (hx : qR x) (hy : qR y) {A B : Prop} (h : q_br c x y A B) : (pz_cc c (Int32.ofInt x) (Int32.ofInt y) = true ∧ A) ∨ (pz_cc c (Int32.ofInt x) (Int32.ofInt y) = false ∧ B) := by
  have e := i32_eq hx hy
  have l := i32_lt hx hy
  have l' := i32_lt hy hx
  have g := i32_le hx hy
  have g' := i32_le hy hx
  cases c <;> unfold q_br at h <;> unfold pz_cc <;> dsimp only at h ⊢ <;> simp only [e, l, l', g, g', decide_eq_true_eq, decide_eq_false_iff_not] <;> split at h <;> first | exact .inl ⟨by omega, h⟩ | exact .inr ⟨by omega, h⟩
theorem s_ic {c : Jvm.ClassFile.Cond} {off : Int} (HK : ∀ pc' L' st' t' D', K pc' L' st' t' D' → wp S m pc' L' st' t' D' Q) (hk : px_at m pc = some (.if_icmp c off, z)) (h : q_ic pc L st t D K c off) : wp S m pc L st t D Q := by
  unfold q_ic at h
  split at h
  · rename_i y x r
    obtain ⟨hx, h⟩ := chk_e h
    obtain ⟨hy, h⟩ := chk_e h
    obtain ⟨p, hp, h⟩ := qto_e h
    rcases qbr_e hx hy h with ⟨e, h⟩ | ⟨e, h⟩
    · refine wp_gs hk (fun s => ?_) (HK _ _ _ _ _ h)
      show pz_br (pz_cc c (Int32.ofInt x) (Int32.ofInt y)) pc off _ _ _ = _
      rw [pz_bq hp, e]; rfl
    · refine wp_gs hk (fun s => ?_) (HK _ _ _ _ _ h)
      show pz_br (pz_cc c (Int32.ofInt x) (Int32.ofInt y)) pc off _ _ _ = _
      rw [pz_bq hp, e]; rfl
  · exact h.elim
theorem s_if {c : Jvm.ClassFile.Cond} {off : Int} (HK : ∀ pc' L' st' t' D', K pc' L' st' t' D' → wp S m pc' L' st' t' D' Q) (hk : px_at m pc = some (.ifCond c off, z)) (h : q_if pc L st t D K c off) : wp S m pc L st t D Q := by
  unfold q_if at h
  split at h
  · rename_i x r
    obtain ⟨hx, h⟩ := chk_e h
    obtain ⟨p, hp, h⟩ := qto_e h
    rcases qbr_e hx ⟨by decide, by decide⟩ h with ⟨e, h⟩ | ⟨e, h⟩
    · refine wp_gs hk (fun s => ?_) (HK _ _ _ _ _ h)
      show pz_br (pz_cc c (Int32.ofInt x) (Int32.ofInt 0)) pc off _ _ _ = _
      rw [pz_bq hp, e]; rfl
    · refine wp_gs hk (fun s => ?_) (HK _ _ _ _ _ h)
      show pz_br (pz_cc c (Int32.ofInt x) (Int32.ofInt 0)) pc off _ _ _ = _
      rw [pz_bq hp, e]; rfl
  · exact h.elim
theorem s_nn {off : Int} (HK : ∀ pc' L' st' t' D', K pc' L' st' t' D' → wp S m pc' L' st' t' D' Q) (hk : px_at m pc = some (.ifnonnull off, z)) (h : q_nn pc L st t D K off) : wp S m pc L st t D Q := by
  unfold q_nn at h
  split at h
  · rename_i a r
    obtain ⟨p, hp, h⟩ := qto_e h
    refine wp_gs hk (fun s => ?_) (HK _ _ _ _ _ h)
    exact pz_jq hp _ _ _
  · rename_i a r
    obtain ⟨p, hp, h⟩ := qto_e h
    split at h
    · rename_i ha
      refine wp_gs hk (fun s => ?_) (HK _ _ _ _ _ h)
      rw [List.map_cons, show qc (qr a) = .null from if_pos ha]
      rfl
    · rename_i ha
      refine wp_gs hk (fun s => ?_) (HK _ _ _ _ _ h)
      rw [List.map_cons, show qc (qr a) = .ref a from if_neg ha]
      exact pz_jq hp _ _ _
  · exact h.elim
theorem qlk_e {d x : Int} {r : List qV} : ∀ (l : List (Int × Int)), q_lk pc L t D K d x r l → ∃ p, pz_tg pc (Op.lookupswitch.offset l d x) = some p ∧ K p L r t D := by
  intro l
  induction l with
  | nil => intro h; exact qto_e h
  | cons q l ih =>
    obtain ⟨a, o⟩ := q
    intro h
    unfold q_lk at h
    unfold Op.lookupswitch.offset
    split at h
    · rename_i e
      rw [if_pos e.symm]
      exact qto_e h
    · rename_i e
      rw [if_neg (fun q => e q.symm)]
      exact ih h
theorem s_lks {d : Int} {ps : Array (Int × Int)} (HK : ∀ pc' L' st' t' D', K pc' L' st' t' D' → wp S m pc' L' st' t' D' Q) (hk : px_at m pc = some (.lookupswitch d ps, z)) (h : q_lks pc L st t D K d ps.toList) : wp S m pc L st t D Q := by
  unfold q_lks at h
  split at h
  · rename_i x r
    obtain ⟨hx, h⟩ := chk_e h
    obtain ⟨hl, h⟩ := chk_e h
    obtain ⟨p, hp, h⟩ := qlk_e _ h
    refine wp_gs hk (fun s => ?_) (HK _ _ _ _ _ h)
    show (if _ then pz_jp pc (Op.lookupswitch.offset ps.toList d (Int32.ofInt x).toInt) _ _ _ else none) = _
    rw [if_pos hl, i32_int hx]
    exact pz_jq hp _ _ _
  · exact h.elim
theorem qtb_e {d x : Int} {r : List qV} : ∀ (l : List Int) (i : Int), q_tb pc L t D K d x r i l → ∃ p, pz_tg pc (if x < i ∨ i + l.length ≤ x then d else l.getD (x - i).toNat 0) = some p ∧ K p L r t D := by
  intro l
  induction l with
  | nil =>
    intro i h
    rw [if_pos (by simp only [List.length_nil]; omega)]
    exact qto_e h
  | cons o l ih =>
    intro i h
    unfold q_tb at h
    split at h
    · rename_i e
      rw [if_neg (by simp only [List.length_cons]; omega), e, Int.sub_self]
      exact qto_e h
    · rename_i e
      obtain ⟨p, hp, h⟩ := ih (i + 1) h
      refine ⟨p, ?_, h⟩
      rw [← hp]
      congr 1
      simp only [List.length_cons]
      by_cases c : x < i + 1 ∨ i + 1 + l.length ≤ x
      · rw [if_pos c, if_pos (by omega)]
      · rw [if_neg c, if_neg (by omega), show (x - i).toNat = (x - (i + 1)).toNat + 1 by omega, List.getD_cons_succ]
theorem s_tbs {d lo hi : Int} {os : Array Int} (HK : ∀ pc' L' st' t' D', K pc' L' st' t' D' → wp S m pc' L' st' t' D' Q) (hk : px_at m pc = some (.tableswitch d lo hi os, z)) (h : q_tbs pc L st t D K d lo hi os.toList) : wp S m pc L st t D Q := by
  unfold q_tbs at h
  split at h
  · rename_i x r
    obtain ⟨hx, h⟩ := chk_e h
    obtain ⟨hl, h⟩ := chk_e h
    obtain ⟨p, hp, h⟩ := qtb_e _ _ h
    refine wp_gs hk (fun s => ?_) (HK _ _ _ _ _ h)
    show (if (Int32.ofInt x).toInt < lo ∨ hi < (Int32.ofInt x).toInt then pz_jp pc d _ _ _ else (os[((Int32.ofInt x).toInt - lo).toNat]?).bind fun o => pz_jp pc o _ _ _) = _
    rw [i32_int hx]
    by_cases c : x < lo ∨ hi < x
    · rw [if_pos c]
      rw [if_pos (by omega)] at hp
      exact pz_jq hp _ _ _
    · rw [if_neg c]
      rw [if_neg (by omega)] at hp
      rw [← Array.getElem?_toList]
      rw [List.getD_eq_getElem?_getD] at hp
      have hlt : (x - lo).toNat < os.toList.length := by omega
      rw [List.getElem?_eq_getElem hlt] at hp ⊢
      exact pz_jq hp _ _ _
  · exact h.elim
end QZ2
end
section
section QZ3
variable {S : (Nat → Int32) × Nat} {m pc : Nat} {k : px_K} {L : qL} {st : List qV} {t : qT} {D : qD} {Q : Int → qT → qD → Prop} {K : qK} {z : Nat × (Nat × (Nat × Int))}
theorem qrf {t : qT} (s : qSt t) {a : Nat} (h : (t.1 a).1 ≠ 8) : qc (qr a) = .ref a := if_neg (s.nz h)
theorem s_iald (HK : ∀ pc' L' st' t' D', K pc' L' st' t' D' → wp S m pc' L' st' t' D' Q) (hk : px_at m pc = some (.iaload, z)) (h : q_iald pc L st t D K S) : wp S m pc L st t D Q := by
  unfold q_iald at h
  split at h
  · rename_i j a r
    obtain ⟨h1, h⟩ := chk_e h
    obtain ⟨h2, h⟩ := chk_e h
    refine wp_gs hk (fun s => ?_) (HK _ _ _ _ _ h)
    have hT := s.sT h1 (by decide)
    have hj := pz_ixq (j := j) (n := (t.1 a).2) (by rw [hT]; exact h2) (s.2.2.2.2 a).2
    show (pz_arr (qH t D) a).bind _ = _
    rw [qH_arr s (by rw [hT]; exact h1), Option.bind_some]
    dsimp only
    rw [hj, i32_nat ⟨by omega, by have := (s.2.2.2.2 a).2; rw [hT] at this; omega⟩, Int.toNat_of_nonneg h2.1]
    rfl
  · rename_i j a r
    obtain ⟨h1, h⟩ := chk_e h
    obtain ⟨h2, h⟩ := chk_e h
    refine wp_gs hk (fun s => ?_) (HK _ _ _ _ _ h)
    have hj := pz_ixq (j := j) (n := (t.1 a).2) h2 (s.2.2.2.2 a).2
    rw [List.map_cons, List.map_cons, qrf s (by rw [h1]; decide)]
    show (pz_arr (qH t D) a).bind _ = _
    rw [qH_arr s h1, Option.bind_some]
    dsimp only
    rw [hj, i32_nat ⟨by omega, by have := (s.2.2.2.2 a).2; omega⟩, Int.toNat_of_nonneg h2.1]
    rfl
  · rename_i j u r
    obtain ⟨h1, h⟩ := chk_e h
    refine wp_gs hk (fun s => ?_) (HK _ _ _ _ _ h)
    have hr : qR j := ⟨by omega, by omega⟩
    show (match pz_ixd (Int32.ofInt j) S.2 with | true => _ | false => none) = _
    rw [show pz_ixd (Int32.ofInt j) S.2 = true from by
      unfold pz_ixd
      rw [i32_nat hr, show (decide (Int32.ofInt j < 0)) = false from decide_eq_false (by rw [show (0 : Int32) = Int32.ofInt 0 from rfl, i32_lt hr ⟨by decide, by decide⟩]; omega)]
      rw [show Nat.blt j.toNat S.2 = true from Nat.blt_eq.mpr (by omega)]
      rfl]
    dsimp only
    rw [i32_nat hr]
    show some (Sum.inl (pc + 1, qcl L, Value.int (S.1 j.toNat) :: _, _)) = some (Sum.inl (pc + 1, qcl L, Value.int (Int32.ofInt (S.1 j.toNat).toInt) :: _, _))
    rw [Int32.ofInt_toInt]
  · exact h.elim
theorem s_iast (HK : ∀ pc' L' st' t' D', K pc' L' st' t' D' → wp S m pc' L' st' t' D' Q) (hk : px_at m pc = some (.iastore, z)) (h : q_iast pc L st t D K) : wp S m pc L st t D Q := by
  unfold q_iast at h
  split at h
  · rename_i x j a r
    obtain ⟨h1, h⟩ := chk_e h
    obtain ⟨h2, h⟩ := chk_e h
    refine wp_gs hk (fun s => ?_) (HK _ _ _ _ _ h)
    have hT := s.sT h1 (by decide)
    have hj := pz_ixq (j := j) (n := (t.1 a).2) (by rw [hT]; exact h2) (s.2.2.2.2 a).2
    show (pz_arr (qH t D) a).bind _ = _
    rw [qH_arr s (by rw [hT]; exact h1), Option.bind_some]
    dsimp only
    rw [hj, i32_nat ⟨by omega, by have := (s.2.2.2.2 a).2; rw [hT] at this; omega⟩, ← qH_upa (by rw [hT]; exact h1) h2.1]
    rfl
  · rename_i x j a r
    obtain ⟨h1, h⟩ := chk_e h
    obtain ⟨h2, h⟩ := chk_e h
    refine wp_gs hk (fun s => ?_) (HK _ _ _ _ _ h)
    have hj := pz_ixq (j := j) (n := (t.1 a).2) h2 (s.2.2.2.2 a).2
    rw [List.map_cons, List.map_cons, List.map_cons, qrf s (by rw [h1]; decide)]
    show (pz_arr (qH t D) a).bind _ = _
    rw [qH_arr s h1, Option.bind_some]
    dsimp only
    rw [hj, i32_nat ⟨by omega, by have := (s.2.2.2.2 a).2; omega⟩, ← qH_upa h1 h2.1]
    rfl
  · exact h.elim
theorem va_rf_q (v : Nat) : va_rf (if v = 0 then none else some v) = qc (qr v) := by
  show _ = if v = 0 then Value.null else Value.ref v
  split <;> rfl
theorem s_aald (HK : ∀ pc' L' st' t' D', K pc' L' st' t' D' → wp S m pc' L' st' t' D' Q) (hk : px_at m pc = some (.aaload, z)) (h : q_aald pc L st t D K) : wp S m pc L st t D Q := by
  unfold q_aald at h
  split at h
  · rename_i j a r
    obtain ⟨h1, h⟩ := chk_e h
    obtain ⟨h2, h⟩ := chk_e h
    refine wp_gs hk (fun s => ?_) (HK _ _ _ _ _ h)
    have hT := s.sT h1 (by decide)
    have hj := pz_ixq (j := j) (n := (t.1 a).2) (by rw [hT]; exact h2) (s.2.2.2.2 a).2
    show (pz_arq (qH t D) a).bind _ = _
    rw [qH_arq s (by rw [hT]; exact h1), Option.bind_some]
    dsimp only
    rw [hj, i32_nat ⟨by omega, by have := (s.2.2.2.2 a).2; rw [hT] at this; omega⟩, Int.toNat_of_nonneg h2.1, va_rf_q]
    rfl
  · rename_i j a r
    obtain ⟨h1, h⟩ := chk_e h
    obtain ⟨h2, h⟩ := chk_e h
    refine wp_gs hk (fun s => ?_) (HK _ _ _ _ _ h)
    have hj := pz_ixq (j := j) (n := (t.1 a).2) h2 (s.2.2.2.2 a).2
    rw [List.map_cons, List.map_cons, qrf s (by rw [h1]; decide)]
    show (pz_arq (qH t D) a).bind _ = _
    rw [qH_arq s h1, Option.bind_some]
    dsimp only
    rw [hj, i32_nat ⟨by omega, by have := (s.2.2.2.2 a).2; omega⟩, Int.toNat_of_nonneg h2.1, va_rf_q]
    rfl
  · exact h.elim
theorem qsP_arr {a : Nat} (h : ¬ (qsT a).1 < 10) (b : Nat) : qsP a b = none := by
  cases e : qsP a b with
  | none => rfl
  | some v => exact absurd (qsP_lt e).2.1 h
theorem s_aast (HK : ∀ pc' L' st' t' D', K pc' L' st' t' D' → wp S m pc' L' st' t' D' Q) (hk : px_at m pc = some (.aastore, z)) (h : q_aast pc L st t D K) : wp S m pc L st t D Q := by
  unfold q_aast at h
  split at h
  · rename_i v j a r
    obtain ⟨h1, h⟩ := chk_e h
    obtain ⟨h3, h⟩ := chk_e h
    obtain ⟨h2, h⟩ := chk_e h
    refine wp_go hk (fun s => ?_) (fun s => s.upP (fun b _ => qsP_arr (by omega) b)) (fun _ => ⟨Nat.le_refl _, Nat.le_refl _, fun _ _ => rfl⟩) (HK _ _ _ _ _ h)
    have hT := s.sT h1 (by decide)
    have h1' : (t.1 a).1 = 11 := by rw [hT]; exact h1
    have hj := pz_ixq (j := j) (n := (t.1 a).2) (by rw [hT]; exact h2) (s.2.2.2.2 a).2
    have hn : (Int32.ofInt j).toNatClampNeg = j.toNat := i32_nat ⟨by omega, by have := (s.2.2.2.2 a).2; rw [hT] at this; omega⟩
    by_cases hv : v = 0
    · rw [List.map_cons, show qc (qr v) = .null from if_pos hv]
      show (pz_arq (qH t D) a).bind _ = _
      rw [qH_arq s h1', Option.bind_some]
      dsimp only
      rw [hj, hn, ← qH_upq h1' h2.1 (if_pos hv)]
      rfl
    · rw [List.map_cons, show qc (qr v) = .ref v from if_neg hv]
      show (pz_arq (qH t D) a).bind _ = _
      rw [qH_arq s h1', Option.bind_some]
      dsimp only
      rw [qH_obj s (h3.resolve_left hv) (by decide), hj, hn, ← qH_upq h1' h2.1 (if_neg hv)]
      rfl
  · exact h.elim
theorem i32_ofNat (n : Nat) : Int32.ofNat n = Int32.ofInt n := Int32.ofInt_eq_ofNat.symm
theorem s_alen (HK : ∀ pc' L' st' t' D', K pc' L' st' t' D' → wp S m pc' L' st' t' D' Q) (hk : px_at m pc = some (.arraylength, z)) (h : q_alen pc L st t D K S) : wp S m pc L st t D Q := by
  unfold q_alen at h
  split at h
  · rename_i a r
    obtain ⟨h1, h⟩ := chk_e h
    refine wp_gs hk (fun s => ?_) (HK _ _ _ _ _ h)
    have hT := s.sT h1 (by decide)
    have h2 := (s.2.2.2.2 a).1
    show (pz_arr (qH t D) a).bind _ = _
    rw [qH_arr s (by rw [hT]; exact h1), Option.bind_some]
    dsimp only
    rw [i32_ofNat, Int.toNat_of_nonneg h2, hT]
    rfl
  · rename_i a r
    obtain ⟨h1, h⟩ := chk_e h
    refine wp_gs hk (fun s => ?_) (HK _ _ _ _ _ h)
    have h2 := (s.2.2.2.2 a).1
    rw [List.map_cons, qrf s (by rw [h1]; decide)]
    show (pz_arr (qH t D) a).bind _ = _
    rw [qH_arr s h1, Option.bind_some]
    dsimp only
    rw [i32_ofNat, Int.toNat_of_nonneg h2]
    rfl
  · rename_i r
    refine wp_gs hk (fun s => ?_) (HK _ _ _ _ _ h)
    show pz_go (pc + 1) _ (.int (Int32.ofNat S.2) :: _) _ = _
    rw [i32_ofNat]
    rfl
  · exact h.elim
theorem s_gf {a b i0 l0 : Nat} {w : Int} (HK : ∀ pc' L' st' t' D', K pc' L' st' t' D' → wp S m pc' L' st' t' D' Q) (hk : px_at m pc = some (.getfield i0, l0, a, b, w)) (h : q_gf pc L st t D K a b) : wp S m pc L st t D Q := by
  unfold q_gf at h
  split at h
  · rename_i o r
    obtain ⟨⟨h1, h2, h3⟩, h⟩ := chk_e h
    have key : qSt t → pz_step S (px_rt m) (.getfield i0, l0, a, b, w) pc (qcl L) ((qs o :: r).map qc) (qH t D) = pz_go (pc + 3) (qcl L) (qF (px_ty a b) (t.2.1 o b) (D o b) :: r.map qc) (qH t D) := fun s => by
      show (pz_obj (qH t D) o a).bind _ = _
      rw [qH_obj s (by rw [s.sT h1 (by omega)]; exact h1) h2, Option.bind_some, qFs_get h3]
      rfl
    split at h
    · rename_i e
      exact wp_gs hk (fun s => by rw [key s, e]; rfl) (HK _ _ _ _ _ h)
    · rename_i e
      exact wp_gs hk (fun s => by rw [key s, e]; rfl) (HK _ _ _ _ _ h)
    · rename_i e
      exact wp_gs hk (fun s => by rw [key s, e]; rfl) (HK _ _ _ _ _ h)
    · rename_i e1 e2 e3
      have e : ∀ p d, qF (px_ty a b) p d = if p = 0 then .null else .ref p := fun p d => by
        unfold qF
        split
        · exact absurd (by assumption) e1
        · exact absurd (by assumption) e2
        · exact absurd (by assumption) e3
        · rfl
      split at h
      · rename_i v hv
        obtain ⟨h5, h⟩ := chk_e h
        exact wp_gs hk (fun s => by rw [key s, e, s.2.2.2.1 _ _ _ hv, if_neg h5]; rfl) (HK _ _ _ _ _ h)
      · exact wp_gs hk (fun s => by rw [key s, e]; rfl) (HK _ _ _ _ _ h)
  · rename_i o r
    obtain ⟨⟨h1, h2, h3⟩, h⟩ := chk_e h
    obtain ⟨h4, h⟩ := chk_e h
    have key : qSt t → pz_step S (px_rt m) (.getfield i0, l0, a, b, w) pc (qcl L) ((qr o :: r).map qc) (qH t D) = pz_go (pc + 3) (qcl L) (qF (px_ty a b) (t.2.1 o b) (D o b) :: r.map qc) (qH t D) := fun s => by
      rw [List.map_cons, qrf s (by rw [h4]; exact h1)]
      show (pz_obj (qH t D) o a).bind _ = _
      rw [qH_obj s h4 h2, Option.bind_some, qFs_get h3]
      rfl
    split at h
    · rename_i e
      exact wp_gs hk (fun s => by rw [key s, e]; rfl) (HK _ _ _ _ _ h)
    · rename_i e
      exact wp_gs hk (fun s => by rw [key s, e]; rfl) (HK _ _ _ _ _ h)
    · rename_i e
      exact wp_gs hk (fun s => by rw [key s, e]; rfl) (HK _ _ _ _ _ h)
    · rename_i e1 e2 e3
      have e : ∀ p d, qF (px_ty a b) p d = if p = 0 then .null else .ref p := fun p d => by
        unfold qF
        split
        · exact absurd (by assumption) e1
        · exact absurd (by assumption) e2
        · exact absurd (by assumption) e3
        · rfl
      exact wp_gs hk (fun s => by rw [key s, e]; rfl) (HK _ _ _ _ _ h)
  · exact h.elim
theorem qFs_len {c a : Nat} : (qFs t D c a).length = px_N c := by unfold qFs; rw [List.length_map, List.length_range]
theorem s_pfv {a b i0 l0 o : Nat} {w : Int} {v : qV} {r : List qV} (HK : ∀ pc' L' st' t' D', K pc' L' st' t' D' → wp S m pc' L' st' t' D' Q) (hk : px_at m pc = some (.putfield i0, l0, a, b, w))
    (hs : qSt t → pz_step S (px_rt m) (.putfield i0, l0, a, b, w) pc (qcl L) (st.map qc) (qH t D) = pz_putf a b pc (qcl L) (qc v :: .ref o :: r.map qc) (qH t D))
    (hT : qSt t → (t.1 o).1 = a) (h2 : a < 10) (h3 : b < px_N a) (h : q_pfv pc L t D K a b o v r) : wp S m pc L st t D Q := by
  have key : ∀ (u : qT) (E : qD), qSt t → pz_fit (px_ty a b) (qc v) = true → pz_up (qH t D) o (.inr (.inr (a, (qFs t D a o).set b (qc v)))) = qH u E → pz_step S (px_rt m) (.putfield i0, l0, a, b, w) pc (qcl L) (st.map qc) (qH t D) = some (.inl (pc + 3, qcl L, r.map qc, qH u E)) := fun u E s hf hu => by
    rw [hs s]
    show (pz_obj (qH t D) o a).bind _ = _
    rw [qH_obj s (hT s) h2, Option.bind_some]
    rw [qFs_len, hf, show Nat.blt b (px_N a) = true from Nat.blt_eq.mpr h3]
    show pz_go _ _ _ (pz_up _ _ _) = _
    rw [hu]; rfl
  have nst : ∀ v : Nat, qEx t (t.1, upP t.2.1 o b v, t.2.2) := fun v => ⟨Nat.le_refl _, Nat.le_refl _, fun _ _ => rfl⟩
  have sup : ∀ v : Nat, qsP o b = none → qSt t → qSt (t.1, upP t.2.1 o b v, t.2.2) := fun v hp s => s.upP (fun b' hb' => by rw [show b' = b from Int.ofNat.inj hb']; exact hp)
  unfold q_pfv at h
  split at h
  · rename_i x e
    exact wp_gs hk (fun s => key t _ s (by rw [e]; rfl) (qH_upo (hT s) h2 h3 (by rw [e]; rfl))) (HK _ _ _ _ _ h)
  · rename_i x e
    obtain ⟨h4, h⟩ := chk_e h
    refine wp_gs hk (fun s => key t _ s ?_ (qH_upo (hT s) h2 h3 (by rw [e]; rfl))) (HK _ _ _ _ _ h)
    rw [e]
    rcases h4 with rfl | rfl <;> decide
  · rename_i x e
    exact wp_gs hk (fun s => key t _ s (by rw [e]; rfl) (qH_upo (hT s) h2 h3 (by rw [e]; rfl))) (HK _ _ _ _ _ h)
  · rename_i x v e
    obtain ⟨h4, h⟩ := chk_e h
    exact wp_go hk (fun s => key _ _ s (by rw [e]; rfl) (qH_upp (v := v) (hT s) h2 h3 (by rw [e]; exact if_neg h4.2))) (sup _ h4.1) (fun _ => nst _) (HK _ _ _ _ _ h)
  · rename_i x v e
    obtain ⟨h4, h⟩ := chk_e h
    refine wp_go hk (fun s => key _ _ s ?_ (qH_upp (v := v) (hT s) h2 h3 (by rw [e]; rfl))) (sup _ h4) (fun _ => nst _) (HK _ _ _ _ _ h)
    rw [e]
    show pz_fit _ (if v = 0 then Value.null else Value.ref v) = true
    split <;> rfl
  · rename_i x v e
    obtain ⟨h4, h⟩ := chk_e h
    refine wp_go hk (fun s => key _ _ s ?_ (qH_upp (v := v) (hT s) h2 h3 (by rw [e]; rfl))) (sup _ h4) (fun _ => nst _) (HK _ _ _ _ _ h)
    rw [e]
    show pz_fit _ (if v = 0 then Value.null else Value.ref v) = true
    split <;> rfl
  · exact h.elim
theorem s_pf {a b i0 l0 : Nat} {w : Int} (HK : ∀ pc' L' st' t' D', K pc' L' st' t' D' → wp S m pc' L' st' t' D' Q) (hk : px_at m pc = some (.putfield i0, l0, a, b, w)) (h : q_pf pc L st t D K a b) : wp S m pc L st t D Q := by
  unfold q_pf at h
  split at h
  · rename_i v o r
    obtain ⟨⟨h1, h2, h3⟩, h⟩ := chk_e h
    exact s_pfv HK hk (fun s => rfl) (fun s => by rw [s.sT h1 (by omega)]; exact h1) h2 h3 h
  · rename_i v o r
    obtain ⟨⟨h1, h2, h3⟩, h⟩ := chk_e h
    obtain ⟨h4, h⟩ := chk_e h
    exact s_pfv HK hk (fun s => by rw [List.map_cons, List.map_cons, qrf s (by rw [h4]; exact h1)]; rfl) (fun s => h4) h2 h3 h
  · exact h.elim
theorem s_new {a i0 l0 b : Nat} {w : Int} (HK : ∀ pc' L' st' t' D', K pc' L' st' t' D' → wp S m pc' L' st' t' D' Q) (hk : px_at m pc = some (.new i0, l0, a, b, w)) (h : q_new pc L st t D K a) : wp S m pc L st t D Q := by
  unfold q_new at h
  obtain ⟨h1, h⟩ := chk_e h
  refine wp_go hk (fun s => ?_) (fun s => s.nw (by show a ≠ 12; omega) ⟨Int.le_refl _, show (0 : Int) < 2147483648 by decide⟩) (fun s => qEx.nw (Nat.le_add_right _ _)) (HK _ _ _ _ _ h)
  show pz_go (pc + 3) _ (.ref t.2.2.1 :: _) (pz_nw (qH t D) (.inr (.inr (a, px_df a))) (px_N a)) = _
  rw [qH_nw (qE_obj h1).symm, List.map_cons, show qc (qr t.2.2.1) = .ref t.2.2.1 from if_neg (by have := s.1; omega)]
  rfl
theorem s_nwa (HK : ∀ pc' L' st' t' D', K pc' L' st' t' D' → wp S m pc' L' st' t' D' Q) (hk : px_at m pc = some (.newarray .int, z)) (h : q_nwa pc L st t D K) : wp S m pc L st t D Q := by
  unfold q_nwa at h
  split at h
  · rename_i x r
    obtain ⟨h1, h⟩ := chk_e h
    have hx : qR x := ⟨by omega, by omega⟩
    refine wp_go hk (fun s => ?_) (fun s => s.nw (by show 10 ≠ 12; decide) ⟨h1.1, by show x < 2147483648; omega⟩) (fun s => qEx.nw (Nat.le_add_right _ _)) (HK _ _ _ _ _ h)
    show (match !(decide (Int32.ofInt x < 0)) && Nat.ble ((Int32.ofInt x).toNatClampNeg * 4) 536870912 with | true => pz_go _ _ _ (pz_nw _ (.inl ((Int32.ofInt x).toNatClampNeg, fun _ => 0)) _) | false => none) = _
    rw [i32_nat hx, show (decide (Int32.ofInt x < 0)) = false from decide_eq_false (by rw [show (0 : Int32) = Int32.ofInt 0 from rfl, i32_lt hx ⟨by decide, by decide⟩]; omega), show Nat.ble (x.toNat * 4) 536870912 = true from Nat.ble_eq.mpr (by omega)]
    show pz_go (pc + 2) _ (.ref t.2.2.1 :: _) (pz_nw (qH t D) (.inl (x.toNat, fun _ => Int32.ofInt 0)) x.toNat) = _
    rw [qH_nw (k := (10, x)) (f := fun _ => 0) (qE_arr rfl).symm, List.map_cons, show qc (qr t.2.2.1) = .ref t.2.2.1 from if_neg (by have := s.1; omega)]
    rfl
  · exact h.elim
theorem s_cc {i0 : Nat} (HK : ∀ pc' L' st' t' D', K pc' L' st' t' D' → wp S m pc' L' st' t' D' Q) (hk : px_at m pc = some (.checkcast i0, z)) (h : q_cc pc L st t D K) : wp S m pc L st t D Q := by
  unfold q_cc at h
  split at h
  · rename_i a r
    obtain ⟨h1, h⟩ := chk_e h
    refine wp_gs hk (fun s => ?_) (HK _ _ _ _ _ h)
    rw [List.map_cons, qrf s (by rw [h1]; decide)]
    show (pz_arr (qH t D) a).bind _ = _
    rw [qH_arr s h1]
    rfl
  · exact h.elim
theorem qcv_app (rt : Option FieldType) (x : Int) (r : List qV) : (qcR rt x).toList ++ r.map qc = (qcv rt x ++ r).map qc := by
  unfold qcR qcv
  split <;> rfl
theorem s_call {a n : Nat} (HK : ∀ pc' L' st' t' D', K pc' L' st' t' D' → wp S m pc' L' st' t' D' Q) (hk : px_at m pc = some k) (hs : qSt t → pz_step S (px_rt m) k pc (qcl L) (st.map qc) (qH t D) = pz_call a n (st.map qc)) (h : q_call pc L st t D K S a n) : wp S m pc L st t D Q := by
  unfold q_call at h
  obtain ⟨⟨h1, h2, h3⟩, h⟩ := chk_e h
  intro s
  obtain ⟨N, x, t', D', r1, r2, r3, r4⟩ := h s
  obtain ⟨N2, x2, t2, D2, u1, u2, u3, u4⟩ := HK _ _ _ _ _ r4 r2
  refine ⟨max N N2 + 1, x2, t2, D2, ?_, u2, r3.trans u3, u4⟩
  unfold pz_run
  rw [hk]
  dsimp only
  rw [hs s]
  unfold pz_call
  rw [List.length_map, ← List.map_drop, qsum_eq, ← List.map_take, ← List.map_reverse, qsl_eq, qcl_len, show Nat.ble n st.length = true from Nat.ble_eq.mpr h1, show Nat.ble (qsum (st.drop n)) 8 = true from Nat.ble_eq.mpr h2, show Nat.ble (qsl (st.take n).reverse).length (px_ml a) = true from Nat.ble_eq.mpr h3]
  simp only [Bool.and_self]
  rw [qin_eq]
  have r1' := pz_mono _ _ _ _ _ _ _ _ r1 (max N N2) (Nat.le_max_left _ _)
  rw [List.map_nil] at r1'
  rw [r1']
  dsimp only
  rw [qcv_app]
  exact pz_mono _ _ _ _ _ _ _ _ u1 (max N N2) (Nat.le_max_right _ _)
theorem s_isp {i0 l0 a b : Nat} {w : Int} (HK : ∀ pc' L' st' t' D', K pc' L' st' t' D' → wp S m pc' L' st' t' D' Q) (hk : px_at m pc = some (.invokespecial i0, l0, a, b, w)) (h : q_isp pc L st t D K S a b) : wp S m pc L st t D Q := by
  have e : ∀ H, pz_step S (px_rt m) (.invokespecial i0, l0, a, b, w) pc (qcl L) (st.map qc) H = pz_isp a b pc (qcl L) (st.map qc) H := fun H => rfl
  unfold q_isp at h
  split at h
  · rename_i ha
    subst ha
    split at h
    · rename_i o r
      obtain ⟨h1, h⟩ := chk_e h
      refine wp_gs hk (fun s => ?_) (HK _ _ _ _ _ h)
      rw [e]
      show (match Nat.ble (pz_sum (r.map qc)) 8 with | true => _ | false => none) = _
      rw [qsum_eq, Nat.ble_eq.mpr h1]; rfl
    · rename_i o r
      obtain ⟨⟨h2, h1⟩, h⟩ := chk_e h
      refine wp_gs hk (fun s => ?_) (HK _ _ _ _ _ h)
      rw [e, List.map_cons, qrf s h2]
      show (match Nat.ble (pz_sum (r.map qc)) 8 with | true => _ | false => none) = _
      rw [qsum_eq, Nat.ble_eq.mpr h1]; rfl
    · exact h.elim
  · rename_i ha
    split at h
    · rename_i o r hr
      refine s_call HK hk (fun s => ?_) h
      rw [e]
      unfold pz_isp
      rw [if_neg ha, ← List.map_drop, hr]
      rfl
    · rename_i o r hr
      obtain ⟨h1, h⟩ := chk_e h
      refine s_call HK hk (fun s => ?_) h
      rw [e]
      unfold pz_isp
      rw [if_neg ha, ← List.map_drop, hr, List.map_cons, qrf s h1]
    · exact h.elim
theorem s_ivi {i0 l0 a b : Nat} {w : Int} (HK : ∀ pc' L' st' t' D', K pc' L' st' t' D' → wp S m pc' L' st' t' D' Q) (hk : px_at m pc = some (.invokevirtual i0, l0, a, b, w)) (h : q_ivi pc L st t D K S a b) : wp S m pc L st t D Q := by
  have e : ∀ H, pz_step S (px_rt m) (.invokevirtual i0, l0, a, b, w) pc (qcl L) (st.map qc) H = pz_ivi a b pc (qcl L) (st.map qc) H := fun H => rfl
  unfold q_ivi at h
  split at h
  · rename_i ha
    subst ha
    split at h
    · rename_i o r
      obtain ⟨h1, h⟩ := chk_e h
      obtain ⟨h2, h⟩ := chk_e h
      refine wp_go hk (fun s => ?_) (fun s => s.nw (by rw [h2]; decide) (s.2.2.2.2 o)) (fun s => qEx.nw (Nat.le_add_right _ _)) (HK _ _ _ _ _ h)
      rw [e, List.map_cons, qrf s (by rw [h2]; decide)]
      show (pz_arr (qH t D) o).bind _ = _
      rw [qH_arr s h2, Option.bind_some]
      dsimp only
      rw [qsum_eq, Nat.ble_eq.mpr h1]
      show pz_go (pc + 3) _ (.ref t.2.2.1 :: _) (pz_nw (qH t D) (.inl ((t.1 o).2.toNat, fun i : Nat => Int32.ofInt (D o i))) (t.1 o).2.toNat) = _
      rw [qH_nw (k := t.1 o) (f := D o) (qE_arr h2).symm, List.map_cons, show qc (qr t.2.2.1) = .ref t.2.2.1 from if_neg (by have := s.1; omega)]
      rfl
    · exact h.elim
  · rename_i ha
    split at h
    · rename_i o r hr
      obtain ⟨h1, h⟩ := chk_e h
      refine s_call HK hk (fun s => ?_) h
      rw [e]
      unfold pz_ivi
      rw [if_neg ha, ← List.map_drop, hr]
      show (if (pz_obj (qH t D) o (px_o a)).isSome = true then _ else none) = _
      rw [qH_obj s (by rw [s.sT h1.1 (by omega)]; exact h1.1) h1.2]
      rfl
    · rename_i o r hr
      obtain ⟨h1, h⟩ := chk_e h
      obtain ⟨h2, h⟩ := chk_e h
      refine s_call HK hk (fun s => ?_) h
      rw [e]
      unfold pz_ivi
      rw [if_neg ha, ← List.map_drop, hr, List.map_cons, qrf s (by rw [h2]; exact h1.2)]
      show (if (pz_obj (qH t D) o (px_o a)).isSome = true then _ else none) = _
      rw [qH_obj s h2 h1.1]
      rfl
    · exact h.elim
theorem qcpa_e {v : qV} {F : Nat → Int → Prop} (h : q_cpa t v F) : ∃ a n, F a n ∧ (qSt t → qc v = .ref a ∧ (t.1 a).1 = 10 ∧ (t.1 a).2 = n) := by
  unfold q_cpa at h
  split at h
  · rename_i a
    obtain ⟨h1, h⟩ := chk_e h
    refine ⟨a, _, h, fun s => ?_⟩
    have hT := s.sT h1 (by decide)
    exact ⟨rfl, by rw [hT]; exact h1, by rw [hT]⟩
  · rename_i a
    obtain ⟨h1, h⟩ := chk_e h
    exact ⟨a, _, h, fun s => ⟨qrf s (by rw [h1]; decide), h1, rfl⟩⟩
  · exact h.elim
theorem s_cpy {i0 l0 b : Nat} {w : Int} (HK : ∀ pc' L' st' t' D', K pc' L' st' t' D' → wp S m pc' L' st' t' D' Q) (hk : px_at m pc = some (.invokestatic i0, l0, 1001, b, w)) (h : q_cpy pc L st t D K) : wp S m pc L st t D Q := by
  unfold q_cpy at h
  split at h
  · rename_i n dp d0 sp e0 r
    obtain ⟨d, dn, h, hd⟩ := qcpa_e h
    obtain ⟨e, en, h, he⟩ := qcpa_e h
    obtain ⟨h1, h⟩ := chk_e h
    obtain ⟨h2, h⟩ := chk_e h
    refine wp_gs hk (fun s => ?_) (HK _ _ _ _ _ h)
    obtain ⟨d1, d2, d3⟩ := hd s
    obtain ⟨e1, e2, e3⟩ := he s
    have ld := (s.2.2.2.2 d).2
    have le := (s.2.2.2.2 e).2
    simp only [List.map_cons]
    rw [d1, e1]
    show (pz_arr (qH t D) e).bind _ = _
    rw [qH_arr s e2, Option.bind_some, qH_arr s d2, Option.bind_some]
    dsimp only
    have ng : ∀ x : Int, 0 ≤ x → x < 2147483648 → ¬ (Int32.ofInt x < 0) := fun x h1 h2 => by
      rw [show (0 : Int32) = Int32.ofInt 0 from rfl, i32_lt ⟨by omega, by omega⟩ ⟨by decide, by decide⟩]; omega
    obtain ⟨c1, c2, c3, c4, c5⟩ := h2
    rw [i32_nat (j := sp) ⟨by omega, by omega⟩, i32_nat (j := dp) ⟨by omega, by omega⟩, i32_nat (j := n) ⟨by omega, by omega⟩]
    rw [if_pos ⟨ng _ c1 (by omega), ng _ c2 (by omega), ng _ c3 (by omega), by omega, by omega, by rw [qsum_eq]; exact h1⟩]
    rw [qH_cpy d2 c1 c2 c3]
    rfl
  · exact h.elim
theorem s_mx {f : Int → Int → Int} {g : Int32 → Int32 → Int32} (hg : ∀ x y, qR x → qR y → g (Int32.ofInt x) (Int32.ofInt y) = Int32.ofInt (f x y)) (HK : ∀ pc' L' st' t' D', K pc' L' st' t' D' → wp S m pc' L' st' t' D' Q) (hk : px_at m pc = some k) (hs : ∀ h, pz_step S (px_rt m) k pc (qcl L) (st.map qc) h = pz_mx g pc (qcl L) (st.map qc) h) (h : q_mx pc L st t D K f) : wp S m pc L st t D Q := by
  unfold q_mx at h
  split at h
  · rename_i y x r
    obtain ⟨h1, h⟩ := chk_e h
    obtain ⟨h2, h⟩ := chk_e h
    obtain ⟨h3, h⟩ := chk_e h
    refine wp_gs hk (fun s => ?_) (HK _ _ _ _ _ h)
    rw [hs]
    show (match Nat.ble (pz_sum (r.map qc)) 8 with | true => pz_go _ _ (.int (g (Int32.ofInt x) (Int32.ofInt y)) :: _) _ | false => none) = _
    rw [qsum_eq, Nat.ble_eq.mpr h1, hg x y h2 h3]; rfl
  · exact h.elim
theorem s_iss {i0 l0 a b : Nat} {w : Int} (HK : ∀ pc' L' st' t' D', K pc' L' st' t' D' → wp S m pc' L' st' t' D' Q) (hk : px_at m pc = some (.invokestatic i0, l0, a, b, w)) (h : q_iss pc L st t D K S a b) : wp S m pc L st t D Q := by
  unfold q_iss at h
  split at h
  · rename_i ha
    subst ha
    exact s_cpy HK hk h
  · rename_i ha1
    split at h
    · rename_i ha
      subst ha
      refine s_mx (g := fun x y => if x < y then y else x) (fun x y hx hy => ?_) HK hk (fun H => rfl) h
      unfold qmax
      simp only [i32_lt hx hy]
      split <;> rfl
    · rename_i ha2
      split at h
      · rename_i ha
        subst ha
        refine s_mx (g := fun x y => if y < x then y else x) (fun x y hx hy => ?_) HK hk (fun H => rfl) h
        unfold qmin
        simp only [i32_lt hy hx]
        split <;> rfl
      · rename_i ha3
        refine s_call HK hk (fun s => ?_) h
        show pz_ist_ a b pc _ _ _ = _
        unfold pz_ist_
        rw [if_neg ha1, if_neg ha2, if_neg ha3]
theorem s_ret (hk : px_at m pc = some k) (hs : ∀ x : Int, st = [qi x] → ∀ h, pz_step S (px_rt m) k pc (qcl L) (st.map qc) h = pz_ret (px_rt m) (.int (Int32.ofInt x)) []) (h : q_ret st t D Q (px_rt m)) : wp S m pc L st t D Q := by
  unfold q_ret at h
  split at h
  · rename_i x e
    refine wp_rt (x := x) hk (fun s => ?_) h
    rw [hs x rfl]
    unfold qcR qcv
    rw [e]; rfl
  · rename_i x e
    obtain ⟨h1, h⟩ := chk_e h
    refine wp_rt (x := x) hk (fun s => ?_) h
    rw [hs x rfl]
    unfold qcR qcv
    rw [e]
    rcases h1 with rfl | rfl <;> rfl
  · exact h.elim
theorem s_lcm (HK : ∀ pc' L' st' t' D', K pc' L' st' t' D' → wp S m pc' L' st' t' D' Q) (hk : px_at m pc = some (.lcmp, z)) (h : q_lcm pc L st t D K) : wp S m pc L st t D Q := by
  unfold q_lcm at h
  split at h
  · rename_i y x r
    obtain ⟨h1, h⟩ := chk_e h
    refine wp_gs hk (fun s => ?_) (HK _ _ _ _ _ h)
    show pz_go (pc + 1) _ (.int (lg_cmp (Int64.ofInt x) (Int64.ofInt y)) :: _) _ = _
    have : lg_cmp (Int64.ofInt x) (Int64.ofInt y) = Int32.ofInt (qcmp x y) := by
      unfold lg_cmp qcmp
      rcases h1 with rfl | ⟨hx, hy⟩
      · rw [if_neg (show ¬ (Int64.ofInt x < Int64.ofInt x) by rw [Int64.lt_iff_toInt_lt]; omega), if_pos rfl, if_neg (by omega), if_pos rfl]; rfl
      · have e : (Int64.ofInt x = Int64.ofInt y) ↔ x = y := by
          constructor
          · intro h
            have := congrArg Int64.toInt h
            rwa [i64_int hx, i64_int hy] at this
          · rintro rfl; rfl
        have l : (Int64.ofInt x > Int64.ofInt y) ↔ y < x := by
          show (Int64.ofInt y < Int64.ofInt x) ↔ _
          rw [Int64.lt_iff_toInt_lt, i64_int hx, i64_int hy]
        simp only [e, l]
        by_cases c1 : y < x
        · rw [if_pos c1, if_neg (by omega), if_neg (by omega)]; rfl
        · rw [if_neg c1]
          by_cases c2 : x = y
          · rw [if_pos c2, if_neg (by omega), if_pos c2]; rfl
          · rw [if_neg c2, if_pos (by omega)]; rfl
    rw [this]; rfl
  · exact h.elim
end QZ3
end
section
section QZ4
variable {S : (Nat → Int32) × Nat} {m pc : Nat} {k : px_K} {L : qL} {st : List qV} {t : qT} {D : qD} {Q : Int → qT → qD → Prop} {K : qK}
theorem i32_div {x y : Int} (hx : 0 ≤ x ∧ x < 2147483648) (hy : 0 < y ∧ y < 2147483648) : Int32.ofInt x / Int32.ofInt y = Int32.ofInt (x / y) := by
  rw [← Int32.ofInt_tdiv (by show (-2147483648 : Int) ≤ x; omega) (by show x ≤ (2147483647 : Int); omega) (by show (-2147483648 : Int) ≤ y; omega) (by show y ≤ (2147483647 : Int); omega), Int.tdiv_eq_ediv_of_nonneg hx.1]
theorem i64_div {x y : Int} (hx : 0 ≤ x ∧ x < 9223372036854775808) (hy : 0 < y ∧ y < 9223372036854775808) : Int64.ofInt x / Int64.ofInt y = Int64.ofInt (x / y) := by
  rw [← Int64.ofInt_tdiv (by show (-9223372036854775808 : Int) ≤ x; omega) (by show x ≤ (9223372036854775807 : Int); omega) (by show (-9223372036854775808 : Int) ≤ y; omega) (by show y ≤ (9223372036854775807 : Int); omega), Int.tdiv_eq_ediv_of_nonneg hx.1]
theorem i32_nz {y : Int} (hy : 0 < y ∧ y < 2147483648) : ¬ Int32.ofInt y = 0 := by
  rw [show (0 : Int32) = Int32.ofInt 0 from rfl, i32_eq ⟨by omega, by omega⟩ ⟨by decide, by decide⟩]; omega
theorem i64_nz {y : Int} (hy : 0 < y ∧ y < 9223372036854775808) : ¬ Int64.ofInt y = 0 := by
  intro h
  have := congrArg Int64.toInt h
  rw [i64_int ⟨by omega, by omega⟩] at this
  have e : (0 : Int64).toInt = 0 := rfl
  omega
theorem i64_and (x : Int) : Int64.ofInt x &&& Int64.ofInt 2147483647 = Int64.ofInt (x % 2147483648) := by
  rw [← Int64.toBitVec_inj, Int64.toBitVec_and]
  apply BitVec.eq_of_toNat_eq
  rw [BitVec.toNat_and]
  have e : ∀ y : Int, (Int64.ofInt y).toBitVec.toNat = (y % 18446744073709551616).toNat := fun y => by
    show (BitVec.ofInt 64 y).toNat = _
    rw [BitVec.toNat_ofInt]; rfl
  rw [e, e, e, show ((2147483647 : Int) % 18446744073709551616).toNat = 2 ^ 31 - 1 from rfl, Nat.and_two_pow_sub_one_eq_mod]
  omega
theorem qstep_ok (HK : ∀ pc' L' st' t' D', K pc' L' st' t' D' → wp S m pc' L' st' t' D' Q) (hk : px_at m pc = some k) (h : qstep pc L st t D K Q S (px_rt m) k) : wp S m pc L st t D Q := by
  obtain ⟨i, l0, a, b, w⟩ := k
  unfold qstep at h
  dsimp only at h
  split at h
  · exact wp_gs hk (fun s => rfl) (HK _ _ _ _ _ h)
  · rename_i n
    obtain ⟨h1, h⟩ := chk_e h
    refine wp_gs hk (fun s => ?_) (HK _ _ _ _ _ h)
    show pz_go (pc + 2) _ (.int (Int8.ofInt n).toInt32 :: _) _ = _
    rw [Int8.toInt32_ofInt (show (-128 : Int) ≤ n by omega) (show n ≤ (127 : Int) by omega)]; rfl
  · rename_i n
    obtain ⟨h1, h⟩ := chk_e h
    refine wp_gs hk (fun s => ?_) (HK _ _ _ _ _ h)
    show pz_go (pc + 3) _ (.int (Int16.ofInt n).toInt32 :: _) _ = _
    rw [Int16.toInt32_ofInt (show (-32768 : Int) ≤ n by omega) (show n ≤ (32767 : Int) by omega)]; rfl
  · refine wp_gs hk (fun s => ?_) (HK _ _ _ _ _ h)
    rename_i n
    show pz_go (pc + 1) _ (.long (Int64.ofNat (n : Nat)) :: _) _ = _
    rw [← Int64.ofInt_eq_ofNat]; rfl
  · exact wp_gs hk (fun s => rfl) (HK _ _ _ _ _ h)
  · exact wp_gs hk (fun s => rfl) (HK _ _ _ _ _ h)
  · exact wp_gs hk (fun s => rfl) (HK _ _ _ _ _ h)
  · exact s_ild HK hk (fun H => rfl) h
  · exact s_ild HK hk (fun H => rfl) h
  · exact s_lld HK hk (fun H => rfl) h
  · exact s_lld HK hk (fun H => rfl) h
  · exact s_ald HK hk (fun H => rfl) h
  · exact s_ald HK hk (fun H => rfl) h
  · exact s_ist HK hk (fun H => rfl) h
  · exact s_ist HK hk (fun H => rfl) h
  · exact s_lst HK hk (fun H => rfl) h
  · exact s_lst HK hk (fun H => rfl) h
  · exact s_ast HK hk (fun H => rfl) h
  · exact s_ast HK hk (fun H => rfl) h
  · split at h
    · rename_i i n _ x hx
      obtain ⟨h1, h⟩ := chk_e h
      refine wp_gs hk (fun s => ?_) (HK _ _ _ _ _ h)
      show (match pz_get (qcl L) i with | some (.int x) => (pz_s1 (qcl L) i (.int (x + Int32.ofInt n))).bind fun L' => pz_go (pc + 3) L' _ _ | _ => none) = _
      rw [qcl_get, hx]
      show (pz_s1 (qcl L) i (.int (Int32.ofInt x + Int32.ofInt n))).bind _ = _
      rw [← Int32.ofInt_add]
      have := qcl_s1 (qi (x + n)) h1.1 h1.2
      show (pz_s1 (qcl L) i (qc (qi (x + n)))).bind _ = _
      rw [this]; rfl
    · exact h.elim
  · exact s_i2 (fun x y => by rw [Int32.ofInt_add]) HK hk (fun H => rfl) h
  · exact s_i2 (fun x y => by rw [Int32.ofInt_sub]) HK hk (fun H => rfl) h
  · exact s_i2 (fun x y => by rw [Int32.ofInt_mul]) HK hk (fun H => rfl) h
  · exact s_i2 (fun x y => by unfold qand; rw [Int32.ofInt_toInt]) HK hk (fun H => rfl) h
  · exact s_i2 (fun x y => by unfold qor; rw [Int32.ofInt_toInt]) HK hk (fun H => rfl) h
  · exact s_i2 (fun x y => by unfold qshl; rw [Int32.ofInt_toInt]) HK hk (fun H => rfl) h
  · exact s_i2 (fun x y => by unfold qshr; rw [Int32.ofInt_toInt]) HK hk (fun H => rfl) h
  · exact s_idv (fun x y hx hy => by rw [if_neg (i32_nz hy), i32_div hx hy]) HK hk (fun H => rfl) h
  · exact s_idv (fun x y hx hy => by rw [if_neg (i32_nz hy), i32_div hx hy, ← Int32.ofInt_mul, ← Int32.ofInt_sub, Int.emod_def, Int.mul_comm]) HK hk (fun H => rfl) h
  · exact s_l2 (fun x y => by rw [Int64.ofInt_add]) HK hk (fun H => rfl) h
  · exact s_l2 (fun x y => by rw [Int64.ofInt_mul]) HK hk (fun H => rfl) h
  · exact s_lnd (fun x => by rw [i64_and]) HK hk (fun H => rfl) h
  · exact s_ldv (fun x y hx hy => by rw [if_neg (i64_nz hy), i64_div hx hy]) HK hk (fun H => rfl) h
  · exact s_ldv (fun x y hx hy => by rw [if_neg (i64_nz hy), i64_div hx hy, ← Int64.ofInt_mul, ← Int64.ofInt_sub, Int.emod_def, Int.mul_comm]) HK hk (fun H => rfl) h
  · exact s_lcm HK hk h
  · split at h
    · rename_i x r
      obtain ⟨h1, h⟩ := chk_e h
      refine wp_gs hk (fun s => ?_) (HK _ _ _ _ _ h)
      show pz_go (pc + 1) _ (.long (Int32.ofInt x).toInt64 :: _) _ = _
      rw [Int32.toInt64_ofInt (show (-2147483648 : Int) ≤ x by omega) (show x ≤ (2147483647 : Int) by omega)]; rfl
    · exact h.elim
  · split at h
    · rename_i x r
      refine wp_gs hk (fun s => ?_) (HK _ _ _ _ _ h)
      show pz_go (pc + 1) _ (.int (Int64.ofInt x).toInt32 :: _) _ = _
      rw [Int64.toInt32_ofInt]; rfl
    · exact h.elim
  · split at h
    · rename_i v r
      obtain ⟨h1, h⟩ := chk_e h
      refine wp_gs hk (fun s => ?_) (HK _ _ _ _ _ h)
      show (if (qc v).category = 1 then _ else none) = _
      rw [qc_cat, if_pos h1]; rfl
    · exact h.elim
  · split at h
    · rename_i v u r
      obtain ⟨h1, h⟩ := chk_e h
      refine wp_gs hk (fun s => ?_) (HK _ _ _ _ _ h)
      show (if (qc v).category = 1 ∧ (qc u).category = 1 then _ else none) = _
      rw [qc_cat, qc_cat, if_pos h1]; rfl
    · exact h.elim
  · obtain ⟨p, hp, h⟩ := qto_e h
    exact wp_gs hk (fun s => pz_jq hp _ _ _) (HK _ _ _ _ _ h)
  · exact s_if HK hk h
  · exact s_ic HK hk h
  · exact s_nn HK hk h
  · exact s_lks HK hk h
  · exact s_tbs HK hk h
  · exact s_iald HK hk h
  · exact s_iast HK hk h
  · exact s_aald HK hk h
  · exact s_aast HK hk h
  · exact s_alen HK hk h
  · exact s_gf HK hk h
  · exact s_pf HK hk h
  · exact s_new HK hk h
  · exact s_nwa HK hk h
  · exact s_cc HK hk h
  · exact s_isp HK hk h
  · exact s_ivi HK hk h
  · exact s_iss HK hk h
  · refine s_ret hk (fun x e H => ?_) h
    rw [e]; rfl
  · split at h
    · rename_i x e
      refine wp_rt (x := x) hk (fun s => ?_) h
      show pz_ret (px_rt m) (.long (Int64.ofInt x)) [] = _
      unfold qcR qcv
      rw [e]; rfl
    · exact h.elim
  · split at h
    · rename_i x c e
      refine wp_rt (x := (x : Int)) hk (fun s => ?_) h
      unfold qcR qcv
      rw [e]
      show (match ([qc (qr x)] : List Value) with | .ref v :: r => pz_ret _ (.ref v) r | .null :: r => pz_ret _ .null r | _ => none) = some (.inr (.inl (some (qc (qr x)))))
      by_cases hx : x = 0
      · rw [show qc (qr x) = .null from if_pos hx]; rfl
      · rw [show qc (qr x) = .ref x from if_neg hx]; rfl
    · exact h.elim
  · split at h
    · rename_i e
      refine wp_rt (x := 0) hk (fun s => ?_) h
      show ((match ([] : List Value), px_rt m with | [], none => some (.inr (.inl none)) | _, _ => none) : Option pz_X) = _
      unfold qcR qcv
      rw [e]; rfl
    · exact h.elim
  · exact h.elim
theorem vc_ok {cuts : List Nat} : ∀ (n pc : Nat) (L : qL) (st : List qV) (t : qT) (D : qD), vc S m cuts Q n pc L st t D → wp S m pc L st t D Q := by
  intro n
  induction n with
  | zero => intro pc L st t D h; exact h
  | succ n ih =>
    intro pc L st t D h
    unfold vc at h
    split at h
    · rename_i k hk
      refine qstep_ok (fun pc' L' st' t' D' h => ?_) hk h
      split at h
      · exact h
      · exact ih _ _ _ _ _ h
    · exact h.elim
end QZ4
end
section
/-! blocks, written by wip/whole/mkblk.py: what each stretch of a method asks -/
/-! 0 X0_init -/
set_option maxRecDepth 100000 in
theorem b0_0 {S : (Nat → Int32) × Nat} {t : qT} {D : qD} {Q : Int → qT → qD → Prop} {a : Nat} (h :
chk ((t.1 a).1 ≠ 8 ∧ 0 ≤ 8)
(chk ((t.1 a).1 = 0)
  (wp S 0 9 [some (qr a)] [] t (up D a 0 0) Q))) : wp S 0 0 [some (qr a)] [] t D Q := vc_ok (cuts := [9, 18, 26, 33, 41]) 600 0 _ _ _ _ h
set_option maxRecDepth 100000 in
theorem b0_9 {S : (Nat → Int32) × Nat} {t : qT} {D : qD} {Q : Int → qT → qD → Prop} {a : Nat} (h :
chk (((nwT t.1 t.2.2.1 (10, 180)) a).1 = 0)
(chk (qsP a 1 = none)
  (wp S 0 18 [some (qr a)] [] ((nwT t.1 t.2.2.1 (10, 180)), (upP (nwP t.2.1 t.2.2.1) a 1 t.2.2.1), ((t.2.2.1 + 1), (t.2.2.2 + 180))) (upr D t.2.2.1 (fun _ => 0)) Q))) : wp S 0 9 [some (qr a)] [] t D Q := vc_ok (cuts := [9, 18, 26, 33, 41]) 600 9 _ _ _ _ h
set_option maxRecDepth 100000 in
theorem b0_18 {S : (Nat → Int32) × Nat} {t : qT} {D : qD} {Q : Int → qT → qD → Prop} {a : Nat} (h :
chk (((nwT t.1 t.2.2.1 (10, 72)) a).1 = 0)
(chk (qsP a 2 = none)
  (wp S 0 26 [some (qr a)] [] ((nwT t.1 t.2.2.1 (10, 72)), (upP (nwP t.2.1 t.2.2.1) a 2 t.2.2.1), ((t.2.2.1 + 1), (t.2.2.2 + 72))) (upr D t.2.2.1 (fun _ => 0)) Q))) : wp S 0 18 [some (qr a)] [] t D Q := vc_ok (cuts := [9, 18, 26, 33, 41]) 600 18 _ _ _ _ h
set_option maxRecDepth 100000 in
theorem b0_26 {S : (Nat → Int32) × Nat} {t : qT} {D : qD} {Q : Int → qT → qD → Prop} {a : Nat} (h :
chk (((nwT t.1 t.2.2.1 (10, 3)) a).1 = 0)
(chk (qsP a 3 = none)
  (wp S 0 33 [some (qr a)] [] ((nwT t.1 t.2.2.1 (10, 3)), (upP (nwP t.2.1 t.2.2.1) a 3 t.2.2.1), ((t.2.2.1 + 1), (t.2.2.2 + 3))) (upr D t.2.2.1 (fun _ => 0)) Q))) : wp S 0 26 [some (qr a)] [] t D Q := vc_ok (cuts := [9, 18, 26, 33, 41]) 600 26 _ _ _ _ h
set_option maxRecDepth 100000 in
theorem b0_33 {S : (Nat → Int32) × Nat} {t : qT} {D : qD} {Q : Int → qT → qD → Prop} {a : Nat} (h :
chk (((nwT t.1 t.2.2.1 (10, 45)) a).1 = 0)
(chk (qsP a 4 = none)
  (wp S 0 41 [some (qr a)] [] ((nwT t.1 t.2.2.1 (10, 45)), (upP (nwP t.2.1 t.2.2.1) a 4 t.2.2.1), ((t.2.2.1 + 1), (t.2.2.2 + 45))) (upr D t.2.2.1 (fun _ => 0)) Q))) : wp S 0 33 [some (qr a)] [] t D Q := vc_ok (cuts := [9, 18, 26, 33, 41]) 600 33 _ _ _ _ h
set_option maxRecDepth 100000 in
theorem b0_41 {S : (Nat → Int32) × Nat} {t : qT} {D : qD} {Q : Int → qT → qD → Prop} {a : Nat} (h :
chk (((nwT t.1 t.2.2.1 (10, 3)) a).1 = 0)
(chk (qsP a 5 = none)
  (Q 0 ((nwT t.1 t.2.2.1 (10, 3)), (upP (nwP t.2.1 t.2.2.1) a 5 t.2.2.1), ((t.2.2.1 + 1), (t.2.2.2 + 3))) (upr D t.2.2.1 (fun _ => 0))))) : wp S 0 41 [some (qr a)] [] t D Q := vc_ok (cuts := [9, 18, 26, 33, 41]) 600 41 _ _ _ _ h
/-! 1 X0_rowPart -/
set_option maxRecDepth 100000 in
theorem b1_0 {S : (Nat → Int32) × Nat} {t : qT} {D : qD} {Q : Int → qT → qD → Prop} {l1 l2 l3 : Int} {a : Nat} (h :
chk ((t.1 a).1 = 0)
(chk ((t.1 (t.2.1 a 1)).1 = 10)
  (chk (0 ≤ ((((l1 * 10) + l2) * 6) + l3) ∧ ((((l1 * 10) + l2) * 6) + l3) < (t.1 (t.2.1 a 1)).2)
    (Q (D (t.2.1 a 1) ((((l1 * 10) + l2) * 6) + l3)) t D)))) : wp S 1 0 [some (qr a), some (qi l1), some (qi l2), some (qi l3)] [] t D Q := vc_ok (cuts := []) 600 0 _ _ _ _ h
/-! 2 X0_writeRowPart -/
set_option maxRecDepth 100000 in
theorem b2_0 {S : (Nat → Int32) × Nat} {t : qT} {D : qD} {Q : Int → qT → qD → Prop} {l1 l2 l3 l4 : Int} {a : Nat} (h :
chk ((t.1 a).1 = 0)
(chk ((t.1 (t.2.1 a 1)).1 = 10)
  (chk (0 ≤ ((((l1 * 10) + l2) * 6) + l3) ∧ ((((l1 * 10) + l2) * 6) + l3) < (t.1 (t.2.1 a 1)).2)
    (Q 0 t (up D (t.2.1 a 1) ((((l1 * 10) + l2) * 6) + l3) l4))))) : wp S 2 0 [some (qr a), some (qi l1), some (qi l2), some (qi l3), some (qi l4)] [] t D Q := vc_ok (cuts := []) 600 0 _ _ _ _ h
/-! 3 X0_padCount -/
set_option maxRecDepth 100000 in
theorem b3_0 {S : (Nat → Int32) × Nat} {t : qT} {D : qD} {Q : Int → qT → qD → Prop} {l1 : Int} {a : Nat} (h :
chk ((t.1 a).1 = 0)
(chk ((t.1 (t.2.1 a 5)).1 = 10)
  (chk (0 ≤ l1 ∧ l1 < (t.1 (t.2.1 a 5)).2)
    (Q (D (t.2.1 a 5) l1) t D)))) : wp S 3 0 [some (qr a), some (qi l1)] [] t D Q := vc_ok (cuts := []) 600 0 _ _ _ _ h
/-! 4 X0_writePadCount -/
set_option maxRecDepth 100000 in
theorem b4_0 {S : (Nat → Int32) × Nat} {t : qT} {D : qD} {Q : Int → qT → qD → Prop} {l1 l2 : Int} {a : Nat} (h :
chk ((t.1 a).1 = 0)
(chk ((t.1 (t.2.1 a 5)).1 = 10)
  (chk (0 ≤ l1 ∧ l1 < (t.1 (t.2.1 a 5)).2)
    (Q 0 t (up D (t.2.1 a 5) l1 l2))))) : wp S 4 0 [some (qr a), some (qi l1), some (qi l2)] [] t D Q := vc_ok (cuts := []) 600 0 _ _ _ _ h
/-! 5 X0_padPart -/
set_option maxRecDepth 100000 in
theorem b5_0 {S : (Nat → Int32) × Nat} {t : qT} {D : qD} {Q : Int → qT → qD → Prop} {l1 l2 l3 : Int} {a : Nat} (h :
chk ((t.1 a).1 = 0)
(chk ((t.1 (t.2.1 a 4)).1 = 10)
  (chk (0 ≤ ((((l1 * 3) + l2) * 5) + l3) ∧ ((((l1 * 3) + l2) * 5) + l3) < (t.1 (t.2.1 a 4)).2)
    (Q (D (t.2.1 a 4) ((((l1 * 3) + l2) * 5) + l3)) t D)))) : wp S 5 0 [some (qr a), some (qi l1), some (qi l2), some (qi l3)] [] t D Q := vc_ok (cuts := []) 600 0 _ _ _ _ h
/-! 6 X0_writePadPart -/
set_option maxRecDepth 100000 in
theorem b6_0 {S : (Nat → Int32) × Nat} {t : qT} {D : qD} {Q : Int → qT → qD → Prop} {l1 l2 l3 l4 : Int} {a : Nat} (h :
chk ((t.1 a).1 = 0)
(chk ((t.1 (t.2.1 a 4)).1 = 10)
  (chk (0 ≤ ((((l1 * 3) + l2) * 5) + l3) ∧ ((((l1 * 3) + l2) * 5) + l3) < (t.1 (t.2.1 a 4)).2)
    (Q 0 t (up D (t.2.1 a 4) ((((l1 * 3) + l2) * 5) + l3) l4))))) : wp S 6 0 [some (qr a), some (qi l1), some (qi l2), some (qi l3), some (qi l4)] [] t D Q := vc_ok (cuts := []) 600 0 _ _ _ _ h
/-! 7 X0_saveCount -/
set_option maxRecDepth 100000 in
theorem b7_0 {S : (Nat → Int32) × Nat} {t : qT} {D : qD} {Q : Int → qT → qD → Prop} {l1 : Int} {a : Nat} (h :
chk ((t.1 a).1 = 0)
(chk ((t.1 (t.2.1 a 3)).1 = 10)
  (chk (0 ≤ l1 ∧ l1 < (t.1 (t.2.1 a 3)).2)
    (Q (D (t.2.1 a 3) l1) t D)))) : wp S 7 0 [some (qr a), some (qi l1)] [] t D Q := vc_ok (cuts := []) 600 0 _ _ _ _ h
/-! 8 X0_saveAddress -/
set_option maxRecDepth 100000 in
theorem b8_0 {S : (Nat → Int32) × Nat} {t : qT} {D : qD} {Q : Int → qT → qD → Prop} {l1 l2 : Int} {a : Nat} (h :
chk ((t.1 a).1 = 0)
(chk ((t.1 (t.2.1 a 2)).1 = 10)
  (chk (0 ≤ (((l1 * 8) + l2) * 3) ∧ (((l1 * 8) + l2) * 3) < (t.1 (t.2.1 a 2)).2)
    (Q (D (t.2.1 a 2) (((l1 * 8) + l2) * 3)) t D)))) : wp S 8 0 [some (qr a), some (qi l1), some (qi l2)] [] t D Q := vc_ok (cuts := []) 600 0 _ _ _ _ h
/-! 9 X0_saveRegister -/
set_option maxRecDepth 100000 in
theorem b9_0 {S : (Nat → Int32) × Nat} {t : qT} {D : qD} {Q : Int → qT → qD → Prop} {l1 l2 : Int} {a : Nat} (h :
chk ((t.1 a).1 = 0)
(chk ((t.1 (t.2.1 a 2)).1 = 10)
  (chk (0 ≤ ((((l1 * 8) + l2) * 3) + 1) ∧ ((((l1 * 8) + l2) * 3) + 1) < (t.1 (t.2.1 a 2)).2)
    (Q (D (t.2.1 a 2) ((((l1 * 8) + l2) * 3) + 1)) t D)))) : wp S 9 0 [some (qr a), some (qi l1), some (qi l2)] [] t D Q := vc_ok (cuts := []) 600 0 _ _ _ _ h
/-! 10 X0_saveCell -/
set_option maxRecDepth 100000 in
theorem b10_0 {S : (Nat → Int32) × Nat} {t : qT} {D : qD} {Q : Int → qT → qD → Prop} {l1 l2 : Int} {a : Nat} (h :
chk ((t.1 a).1 = 0)
(chk ((t.1 (t.2.1 a 2)).1 = 10)
  (chk (0 ≤ ((((l1 * 8) + l2) * 3) + 2) ∧ ((((l1 * 8) + l2) * 3) + 2) < (t.1 (t.2.1 a 2)).2)
    (Q (D (t.2.1 a 2) ((((l1 * 8) + l2) * 3) + 2)) t D)))) : wp S 10 0 [some (qr a), some (qi l1), some (qi l2)] [] t D Q := vc_ok (cuts := []) 600 0 _ _ _ _ h
/-! 11 X0_addSave -/
set_option maxRecDepth 100000 in
theorem b11_0 {S : (Nat → Int32) × Nat} {t : qT} {D : qD} {Q : Int → qT → qD → Prop} {l1 l2 l3 l4 : Int} {a : Nat} (h :
chk ((t.1 a).1 = 0)
(chk ((t.1 (t.2.1 a 3)).1 = 10)
  (chk (0 ≤ l1 ∧ l1 < (t.1 (t.2.1 a 3)).2)
    (chk (qR (D (t.2.1 a 3) l1))
      (if (D (t.2.1 a 3) l1) < 8 then
        (chk ((t.1 a).1 = 0)
          (chk ((t.1 (t.2.1 a 3)).1 = 10)
            (chk (0 ≤ l1 ∧ l1 < (t.1 (t.2.1 a 3)).2)
              (chk ((t.1 a).1 = 0)
                (chk ((t.1 (t.2.1 a 2)).1 = 10)
                  (chk (0 ≤ (((l1 * 8) + (D (t.2.1 a 3) l1)) * 3) ∧ (((l1 * 8) + (D (t.2.1 a 3) l1)) * 3) < (t.1 (t.2.1 a 2)).2)
                    (chk ((t.1 a).1 = 0)
                      (chk ((t.1 (t.2.1 a 2)).1 = 10)
                        (chk (0 ≤ ((((l1 * 8) + (D (t.2.1 a 3) l1)) * 3) + 1) ∧ ((((l1 * 8) + (D (t.2.1 a 3) l1)) * 3) + 1) < (t.1 (t.2.1 a 2)).2)
                        (chk ((t.1 a).1 = 0)
                        (chk ((t.1 (t.2.1 a 2)).1 = 10)
                        (chk (0 ≤ ((((l1 * 8) + (D (t.2.1 a 3) l1)) * 3) + 2) ∧ ((((l1 * 8) + (D (t.2.1 a 3) l1)) * 3) + 2) < (t.1 (t.2.1 a 2)).2)
                        (chk ((t.1 a).1 = 0)
                        (chk ((t.1 (t.2.1 a 3)).1 = 10)
                        (chk (0 ≤ l1 ∧ l1 < (t.1 (t.2.1 a 3)).2)
                        (chk ((t.1 (t.2.1 a 3)).1 = 10)
                        (chk (0 ≤ l1 ∧ l1 < (t.1 (t.2.1 a 3)).2)
                        (Q 0 t (up (up (up (up D (t.2.1 a 2) (((l1 * 8) + (D (t.2.1 a 3) l1)) * 3) l2) (t.2.1 a 2) ((((l1 * 8) + (D (t.2.1 a 3) l1)) * 3) + 1) l3) (t.2.1 a 2) ((((l1 * 8) + (D (t.2.1 a 3) l1)) * 3) + 2) l4) (t.2.1 a 3) l1 (((up (up (up D (t.2.1 a 2) (((l1 * 8) + (D (t.2.1 a 3) l1)) * 3) l2) (t.2.1 a 2) ((((l1 * 8) + (D (t.2.1 a 3) l1)) * 3) + 1) l3) (t.2.1 a 2) ((((l1 * 8) + (D (t.2.1 a 3) l1)) * 3) + 2) l4) (t.2.1 a 3) l1) + 1))))))))))))))))))))
        else
        (Q 0 t D)))))) : wp S 11 0 [some (qr a), some (qi l1), some (qi l2), some (qi l3), some (qi l4), none] [] t D Q := vc_ok (cuts := []) 600 0 _ _ _ _ h
/-! 12 X0_countPads -/
set_option maxRecDepth 100000 in
theorem b12_0 {S : (Nat → Int32) × Nat} {t : qT} {D : qD} {Q : Int → qT → qD → Prop} {a : Nat} (h :
wp S 12 4 [some (qr a), some (qi 0), some (qi 0)] [] t D Q) : wp S 12 0 [some (qr a), none, none] [] t D Q := vc_ok (cuts := [4]) 600 0 _ _ _ _ h
set_option maxRecDepth 100000 in
theorem b12_4 {S : (Nat → Int32) × Nat} {t : qT} {D : qD} {Q : Int → qT → qD → Prop} {l1 l2 : Int} {a : Nat} (h :
chk ((t.1 a).1 = 0)
(chk (qR l2)
  (chk (qR (D a 0))
    (if l2 < (D a 0) then
      (chk ((t.1 a).1 = 0)
        (chk ((t.1 (t.2.1 a 5)).1 = 10)
          (chk (0 ≤ l2 ∧ l2 < (t.1 (t.2.1 a 5)).2)
            (wp S 12 4 [some (qr a), some (qi (l1 + (D (t.2.1 a 5) l2))), some (qi (l2 + 1))] [] t D Q))))
      else
      (Q l1 t D))))) : wp S 12 4 [some (qr a), some (qi l1), some (qi l2)] [] t D Q := vc_ok (cuts := [4]) 600 4 _ _ _ _ h
/-! 13 X0_countSavingAddresses -/
set_option maxRecDepth 100000 in
theorem b13_0 {S : (Nat → Int32) × Nat} {t : qT} {D : qD} {Q : Int → qT → qD → Prop} {a : Nat} (h :
wp S 13 4 [some (qr a), some (qi 0), some (qi 0), none] [] t D Q) : wp S 13 0 [some (qr a), none, none, none] [] t D Q := vc_ok (cuts := [4, 14]) 600 0 _ _ _ _ h
set_option maxRecDepth 100000 in
theorem b13_4 {S : (Nat → Int32) × Nat} {t : qT} {D : qD} {Q : Int → qT → qD → Prop} {l1 l2 : Int} {a : Nat} {o3 : Option qV} (h :
chk ((t.1 a).1 = 0)
(chk (qR l2)
  (chk (qR (D a 0))
    (if l2 < (D a 0) then
      (wp S 13 14 [some (qr a), some (qi l1), some (qi l2), some (qi 0)] [] t D Q)
      else
      (Q l1 t D))))) : wp S 13 4 [some (qr a), some (qi l1), some (qi l2), o3] [] t D Q := vc_ok (cuts := [4, 14]) 600 4 _ _ _ _ h
set_option maxRecDepth 100000 in
theorem b13_14 {S : (Nat → Int32) × Nat} {t : qT} {D : qD} {Q : Int → qT → qD → Prop} {l1 l2 l3 : Int} {a : Nat} (h :
chk (qR l3)
(if l3 < 10 then
  (chk ((t.1 a).1 = 0)
    (wp S 14 0 [some (qr a), some (qi l2), some (qi l3), none] [] t D (fun x1 t1 D1 =>
        (chk (qR x1)
          (if x1 = 0 then
            (wp S 13 14 [some (qr a), some (qi l1), some (qi l2), some (qi (l3 + 1))] [] t1 D1 Q)
            else
            (wp S 13 14 [some (qr a), some (qi (l1 + 1)), some (qi l2), some (qi (l3 + 1))] [] t1 D1 Q))))))
  else
  (wp S 13 4 [some (qr a), some (qi l1), some (qi (l2 + 1)), some (qi l3)] [] t D Q))) : wp S 13 14 [some (qr a), some (qi l1), some (qi l2), some (qi l3)] [] t D Q := vc_ok (cuts := [4, 14]) 600 14 _ _ _ _ h
/-! 14 X0_isAnythingSaved -/
set_option maxRecDepth 100000 in
theorem b14_0 {S : (Nat → Int32) × Nat} {t : qT} {D : qD} {Q : Int → qT → qD → Prop} {l1 l2 : Int} {a : Nat} (h :
wp S 14 2 [some (qr a), some (qi l1), some (qi l2), some (qi 0)] [] t D Q) : wp S 14 0 [some (qr a), some (qi l1), some (qi l2), none] [] t D Q := vc_ok (cuts := [2]) 600 0 _ _ _ _ h
set_option maxRecDepth 100000 in
theorem b14_2 {S : (Nat → Int32) × Nat} {t : qT} {D : qD} {Q : Int → qT → qD → Prop} {l1 l2 l3 : Int} {a : Nat} (h :
chk (qR l3)
(if l3 < 4 then
  (chk ((t.1 a).1 = 0)
    (wp S 1 0 [some (qr a), some (qi l1), some (qi l2), some (qi l3)] [] t D (fun x1 t1 D1 =>
        (chk (qR x1)
          (if x1 = (-1) then
            (wp S 14 2 [some (qr a), some (qi l1), some (qi l2), some (qi (l3 + 1))] [] t1 D1 Q)
            else
            (Q 1 t1 D1))))))
  else
  (Q 0 t D))) : wp S 14 2 [some (qr a), some (qi l1), some (qi l2), some (qi l3)] [] t D Q := vc_ok (cuts := [2]) 600 2 _ _ _ _ h
/-! 15 X1_init -/
set_option maxRecDepth 100000 in
theorem b15_0 {S : (Nat → Int32) × Nat} {t : qT} {D : qD} {Q : Int → qT → qD → Prop} {l1 : Int} {a : Nat} (h :
chk ((t.1 a).1 ≠ 8 ∧ 0 ≤ 8)
(chk (qR l1)
  (chk ((t.1 a).1 = 1)
    (Q 0 t (up D a 0 l1))))) : wp S 15 0 [some (qr a), some (qi l1)] [] t D Q := vc_ok (cuts := []) 600 0 _ _ _ _ h
/-! 16 X1_draw -/
set_option maxRecDepth 100000 in
theorem b16_0 {S : (Nat → Int32) × Nat} {t : qT} {D : qD} {Q : Int → qT → qD → Prop} {l1 : Int} {a : Nat} (h :
chk ((t.1 a).1 = 1)
(chk (0 ≤ ((1103515245 * (D a 0)) + 12345) ∧ ((1103515245 * (D a 0)) + 12345) < 9223372036854775808)
  (chk ((t.1 a).1 = 1)
    (chk (qR l1)
      (if l1 < 1 then
        (Q 0 t (up D a 0 (((1103515245 * (D a 0)) + 12345) % 2147483648)))
        else
        (chk ((t.1 a).1 = 1)
          (chk (0 ≤ ((up D a 0 (((1103515245 * (D a 0)) + 12345) % 2147483648)) a 0) ∧ ((up D a 0 (((1103515245 * (D a 0)) + 12345) % 2147483648)) a 0) < 9223372036854775808)
            (chk (qR l1)
              (chk (0 ≤ (((up D a 0 (((1103515245 * (D a 0)) + 12345) % 2147483648)) a 0) / 65536) ∧ (((up D a 0 (((1103515245 * (D a 0)) + 12345) % 2147483648)) a 0) / 65536) < 9223372036854775808)
                (chk (0 < l1 ∧ l1 < 9223372036854775808)
                  (Q ((((up D a 0 (((1103515245 * (D a 0)) + 12345) % 2147483648)) a 0) / 65536) % l1) t (up D a 0 (((1103515245 * (D a 0)) + 12345) % 2147483648))))))))))))) : wp S 16 0 [some (qr a), some (qi l1)] [] t D Q := vc_ok (cuts := []) 600 0 _ _ _ _ h
/-! 17 X1_doOne -/
set_option maxRecDepth 100000 in
theorem b17_0 {S : (Nat → Int32) × Nat} {t : qT} {D : qD} {Q : Int → qT → qD → Prop} {a l1 : Nat} (h :
chk ((t.1 a).1 = 1)
(wp S 16 0 [some (qr a), some (qi 4)] [] t D (fun x1 t1 D1 =>
    (chk (qR x1)
      (if x1 = 0 then
        (chk ((t1.1 l1).1 = 3)
          (chk ((t1.1 (t1.2.1 l1 0)).1 = 0)
            (chk ((t1.1 a).1 = 1)
              (wp S 16 0 [some (qr a), some (qi (D1 (t1.2.1 l1 0) 0))] [] t1 D1 (fun x2 t2 D2 =>
                  (chk ((t2.1 l1).1 = 3)
                    (wp S 28 0 [some (qr l1), some (qi x2), none] [] t2 D2 (fun _ t3 D3 =>
                        (Q 0 t3 D3)))))))))
        else
        (if x1 = 1 then
          (chk ((t1.1 l1).1 = 3)
            (wp S 27 0 [some (qr l1)] [] t1 D1 (fun x4 t4 D4 =>
                (chk (qR x4)
                  (if x4 < 9 then
                    (chk ((t4.1 l1).1 = 3)
                      (wp S 29 0 [some (qr l1)] [] t4 D4 (fun _ t5 D5 =>
                        (Q 0 t5 D5))))
                    else
                    (Q 0 t4 D4))))))
          else
          (if x1 = 2 then
            (chk ((t1.1 a).1 = 1)
              (wp S 16 0 [some (qr a), some (qi 4)] [] t1 D1 (fun x6 t6 D6 =>
                  (chk ((t6.1 l1).1 = 3)
                    (chk ((t6.1 a).1 = 1)
                      (wp S 16 0 [some (qr a), some (qi 1000)] [] t6 D6 (fun x7 t7 D7 =>
                        (chk ((t7.1 (t6.2.1 l1 2)).1 = 10)
                        (chk (0 ≤ x6 ∧ x6 < (t7.1 (t6.2.1 l1 2)).2)
                        (Q 0 t7 (up D7 (t6.2.1 l1 2) x6 x7)))))))))))
            else
            (chk ((t1.1 a).1 = 1)
              (wp S 18 0 [some (qr a), some (qr l1), none, none] [] t1 D1 (fun x8 t8 D8 =>
                  (chk (x8 = 0 ∨ x8 = 1)
                    (Q x8 t8 D8)))))))))))) : wp S 17 0 [some (qr a), some (qr l1), none] [] t D Q := vc_ok (cuts := []) 600 0 _ _ _ _ h
/-! 18 X1_throwDrawn -/
set_option maxRecDepth 100000 in
theorem b18_0 {S : (Nat → Int32) × Nat} {t : qT} {D : qD} {Q : Int → qT → qD → Prop} {a l1 : Nat} (h :
chk ((t.1 a).1 = 1)
(wp S 16 0 [some (qr a), some (qi 5)] [] t D (fun x1 t1 D1 =>
    (chk ((t1.1 l1).1 = 3)
      (wp S 34 0 [some (qr l1), some (qi x1), none, none, none] [] t1 D1 (fun x2 t2 D2 =>
          (chk (qR x2)
            (if x2 = (-1) then
              (Q 0 t2 D2)
              else
              (chk ((t2.1 l1).1 = 3)
                (wp S 37 0 [some (qr l1), some (qi x2), some (qi x1), none, none] [] t2 D2 (fun _ t3 D3 =>
                    (Q 1 t3 D3)))))))))))) : wp S 18 0 [some (qr a), some (qr l1), none, none] [] t D Q := vc_ok (cuts := []) 600 0 _ _ _ _ h
/-! 20 X2_empty -/
set_option maxRecDepth 100000 in
theorem b20_0 {S : (Nat → Int32) × Nat} {t : qT} {D : qD} {Q : Int → qT → qD → Prop} (h :
Q 0 t (up D 3 2 0)) : wp S 20 0 [some (qs 3)] [] t D Q := vc_ok (cuts := []) 600 0 _ _ _ _ h
/-! 21 X2_add -/
set_option maxRecDepth 100000 in
theorem b21_0 {S : (Nat → Int32) × Nat} {t : qT} {D : qD} {Q : Int → qT → qD → Prop} {l1 : Nat} (h :
chk (l1 = 0 ∨ (t.1 l1).1 = 3)
(chk (0 ≤ (D 3 1) ∧ (D 3 1) < 30)
  (chk (0 ≤ ((D 3 1) + 1) ∧ ((D 3 1) + 1) < 2147483648)
    (chk (qR ((D 3 2) + 1))
      (Q 0 (t.1, (upP t.2.1 4 (D 3 1) l1), t.2.2) (up (up D 3 1 (((D 3 1) + 1) % 30)) 3 2 (qmin ((D 3 2) + 1) 30))))))) : wp S 21 0 [some (qs 3), some (qr l1)] [] t D Q := vc_ok (cuts := []) 600 0 _ _ _ _ h
/-! 22 X2_takeLatest -/
set_option maxRecDepth 100000 in
theorem b22_0 {S : (Nat → Int32) × Nat} {t : qT} {D : qD} {Q : Int → qT → qD → Prop} {l1 : Nat} (h :
chk (qR (D 3 2))
(if (D 3 2) < 1 then
  (Q (l1 : Nat) t D)
  else
  (chk (0 ≤ (((D 3 1) + 30) - 1) ∧ (((D 3 1) + 30) - 1) < 2147483648)
    (chk (0 ≤ ((((D 3 1) + 30) - 1) % 30) ∧ ((((D 3 1) + 30) - 1) % 30) < 30)
      (Q ((t.2.1 4 ((((D 3 1) + 30) - 1) % 30)) : Nat) t (up (up D 3 1 ((((D 3 1) + 30) - 1) % 30)) 3 2 ((D 3 2) - 1))))))) : wp S 22 0 [some (qs 3), some (qr l1)] [] t D Q := vc_ok (cuts := []) 600 0 _ _ _ _ h
/-! 23 X2_become -/
set_option maxRecDepth 100000 in
theorem b23h_0 {S : (Nat → Int32) × Nat} {t : qT} {D : qD} {Q : Int → qT → qD → Prop} (h :
wp S 23 2 [some (qs 3), some (qs 5), some (qi 0)] [] t D Q) : wp S 23 0 [some (qs 3), some (qs 5), none] [] t D Q := vc_ok (cuts := [2]) 600 0 _ _ _ _ h
set_option maxRecDepth 100000 in
theorem b23h_2 {S : (Nat → Int32) × Nat} {t : qT} {D : qD} {Q : Int → qT → qD → Prop} {l2 : Int} (h :
chk (qR l2)
(if l2 < 30 then
  (chk (0 ≤ l2 ∧ l2 < 30)
    (chk ((t.2.1 6 l2) = 0 ∨ (t.1 (t.2.1 6 l2)).1 = 3)
      (chk (0 ≤ l2 ∧ l2 < 30)
        (wp S 23 2 [some (qs 3), some (qs 5), some (qi (l2 + 1))] [] (t.1, (upP t.2.1 4 l2 (t.2.1 6 l2)), t.2.2) D Q))))
  else
  (Q 0 t (up (up D 3 1 (D 5 1)) 3 2 (D 5 2))))) : wp S 23 2 [some (qs 3), some (qs 5), some (qi l2)] [] t D Q := vc_ok (cuts := [2]) 600 2 _ _ _ _ h
set_option maxRecDepth 100000 in
theorem b23k_0 {S : (Nat → Int32) × Nat} {t : qT} {D : qD} {Q : Int → qT → qD → Prop} (h :
wp S 23 2 [some (qs 5), some (qs 3), some (qi 0)] [] t D Q) : wp S 23 0 [some (qs 5), some (qs 3), none] [] t D Q := vc_ok (cuts := [2]) 600 0 _ _ _ _ h
set_option maxRecDepth 100000 in
theorem b23k_2 {S : (Nat → Int32) × Nat} {t : qT} {D : qD} {Q : Int → qT → qD → Prop} {l2 : Int} (h :
chk (qR l2)
(if l2 < 30 then
  (chk (0 ≤ l2 ∧ l2 < 30)
    (chk ((t.2.1 4 l2) = 0 ∨ (t.1 (t.2.1 4 l2)).1 = 3)
      (chk (0 ≤ l2 ∧ l2 < 30)
        (wp S 23 2 [some (qs 5), some (qs 3), some (qi (l2 + 1))] [] (t.1, (upP t.2.1 6 l2 (t.2.1 4 l2)), t.2.2) D Q))))
  else
  (Q 0 t (up (up D 5 1 (D 3 1)) 5 2 (D 3 2))))) : wp S 23 2 [some (qs 5), some (qs 3), some (qi l2)] [] t D Q := vc_ok (cuts := [2]) 600 2 _ _ _ _ h
/-! 24 X3_init -/
set_option maxRecDepth 100000 in
theorem b24_0 {S : (Nat → Int32) × Nat} {t : qT} {D : qD} {Q : Int → qT → qD → Prop} {a l1 : Nat} (h :
chk ((t.1 a).1 ≠ 8 ∧ 0 ≤ 8)
(chk ((t.1 a).1 = 3)
  (chk (qsP a 0 = none)
    (wp S 24 9 [some (qr a), some (qr l1), none, none] [] (t.1, (upP t.2.1 a 0 l1), t.2.2) D Q)))) : wp S 24 0 [some (qr a), some (qr l1), none, none] [] t D Q := vc_ok (cuts := [9, 17, 24, 32, 40, 48, 56, 61, 66, 68, 78]) 600 0 _ _ _ _ h
set_option maxRecDepth 100000 in
theorem b24_9 {S : (Nat → Int32) × Nat} {t : qT} {D : qD} {Q : Int → qT → qD → Prop} {a l1 : Nat} (h :
chk (((nwT t.1 t.2.2.1 (10, 9)) a).1 = 3)
(chk (qsP a 1 = none)
  (wp S 24 17 [some (qr a), some (qr l1), none, none] [] ((nwT t.1 t.2.2.1 (10, 9)), (upP (nwP t.2.1 t.2.2.1) a 1 t.2.2.1), ((t.2.2.1 + 1), (t.2.2.2 + 9))) (upr D t.2.2.1 (fun _ => 0)) Q))) : wp S 24 9 [some (qr a), some (qr l1), none, none] [] t D Q := vc_ok (cuts := [9, 17, 24, 32, 40, 48, 56, 61, 66, 68, 78]) 600 9 _ _ _ _ h
set_option maxRecDepth 100000 in
theorem b24_17 {S : (Nat → Int32) × Nat} {t : qT} {D : qD} {Q : Int → qT → qD → Prop} {a l1 : Nat} (h :
chk (((nwT t.1 t.2.2.1 (10, 4)) a).1 = 3)
(chk (qsP a 2 = none)
  (wp S 24 24 [some (qr a), some (qr l1), none, none] [] ((nwT t.1 t.2.2.1 (10, 4)), (upP (nwP t.2.1 t.2.2.1) a 2 t.2.2.1), ((t.2.2.1 + 1), (t.2.2.2 + 4))) (upr D t.2.2.1 (fun _ => 0)) Q))) : wp S 24 17 [some (qr a), some (qr l1), none, none] [] t D Q := vc_ok (cuts := [9, 17, 24, 32, 40, 48, 56, 61, 66, 68, 78]) 600 17 _ _ _ _ h
set_option maxRecDepth 100000 in
theorem b24_24 {S : (Nat → Int32) × Nat} {t : qT} {D : qD} {Q : Int → qT → qD → Prop} {a l1 : Nat} (h :
chk (((nwT t.1 t.2.2.1 (10, 8)) a).1 = 3)
(chk (qsP a 3 = none)
  (wp S 24 32 [some (qr a), some (qr l1), none, none] [] ((nwT t.1 t.2.2.1 (10, 8)), (upP (nwP t.2.1 t.2.2.1) a 3 t.2.2.1), ((t.2.2.1 + 1), (t.2.2.2 + 8))) (upr D t.2.2.1 (fun _ => 0)) Q))) : wp S 24 24 [some (qr a), some (qr l1), none, none] [] t D Q := vc_ok (cuts := [9, 17, 24, 32, 40, 48, 56, 61, 66, 68, 78]) 600 24 _ _ _ _ h
set_option maxRecDepth 100000 in
theorem b24_32 {S : (Nat → Int32) × Nat} {t : qT} {D : qD} {Q : Int → qT → qD → Prop} {a l1 : Nat} (h :
chk (((nwT t.1 t.2.2.1 (10, 8)) a).1 = 3)
(chk (qsP a 4 = none)
  (wp S 24 40 [some (qr a), some (qr l1), none, none] [] ((nwT t.1 t.2.2.1 (10, 8)), (upP (nwP t.2.1 t.2.2.1) a 4 t.2.2.1), ((t.2.2.1 + 1), (t.2.2.2 + 8))) (upr D t.2.2.1 (fun _ => 0)) Q))) : wp S 24 32 [some (qr a), some (qr l1), none, none] [] t D Q := vc_ok (cuts := [9, 17, 24, 32, 40, 48, 56, 61, 66, 68, 78]) 600 32 _ _ _ _ h
set_option maxRecDepth 100000 in
theorem b24_40 {S : (Nat → Int32) × Nat} {t : qT} {D : qD} {Q : Int → qT → qD → Prop} {a l1 : Nat} (h :
chk (((nwT t.1 t.2.2.1 (10, 48)) a).1 = 3)
(chk (qsP a 5 = none)
  (wp S 24 48 [some (qr a), some (qr l1), none, none] [] ((nwT t.1 t.2.2.1 (10, 48)), (upP (nwP t.2.1 t.2.2.1) a 5 t.2.2.1), ((t.2.2.1 + 1), (t.2.2.2 + 48))) (upr D t.2.2.1 (fun _ => 0)) Q))) : wp S 24 40 [some (qr a), some (qr l1), none, none] [] t D Q := vc_ok (cuts := [9, 17, 24, 32, 40, 48, 56, 61, 66, 68, 78]) 600 40 _ _ _ _ h
set_option maxRecDepth 100000 in
theorem b24_48 {S : (Nat → Int32) × Nat} {t : qT} {D : qD} {Q : Int → qT → qD → Prop} {a l1 : Nat} (h :
chk (((nwT t.1 t.2.2.1 (10, 24)) a).1 = 3)
(chk (qsP a 6 = none)
  (wp S 24 56 [some (qr a), some (qr l1), none, none] [] ((nwT t.1 t.2.2.1 (10, 24)), (upP (nwP t.2.1 t.2.2.1) a 6 t.2.2.1), ((t.2.2.1 + 1), (t.2.2.2 + 24))) (upr D t.2.2.1 (fun _ => 0)) Q))) : wp S 24 48 [some (qr a), some (qr l1), none, none] [] t D Q := vc_ok (cuts := [9, 17, 24, 32, 40, 48, 56, 61, 66, 68, 78]) 600 48 _ _ _ _ h
set_option maxRecDepth 100000 in
theorem b24_56 {S : (Nat → Int32) × Nat} {t : qT} {D : qD} {Q : Int → qT → qD → Prop} {a l1 : Nat} (h :
chk ((t.1 a).1 = 3)
(wp S 24 61 [some (qr a), some (qr l1), none, none] [] t (up D a 7 0) Q)) : wp S 24 56 [some (qr a), some (qr l1), none, none] [] t D Q := vc_ok (cuts := [9, 17, 24, 32, 40, 48, 56, 61, 66, 68, 78]) 600 56 _ _ _ _ h
set_option maxRecDepth 100000 in
theorem b24_61 {S : (Nat → Int32) × Nat} {t : qT} {D : qD} {Q : Int → qT → qD → Prop} {a l1 : Nat} (h :
chk ((t.1 a).1 = 3)
(wp S 24 66 [some (qr a), some (qr l1), none, none] [] t (up D a 8 0) Q)) : wp S 24 61 [some (qr a), some (qr l1), none, none] [] t D Q := vc_ok (cuts := [9, 17, 24, 32, 40, 48, 56, 61, 66, 68, 78]) 600 61 _ _ _ _ h
set_option maxRecDepth 100000 in
theorem b24_66 {S : (Nat → Int32) × Nat} {t : qT} {D : qD} {Q : Int → qT → qD → Prop} {a l1 : Nat} (h :
wp S 24 68 [some (qr a), some (qr l1), some (qi 0), none] [] t D Q) : wp S 24 66 [some (qr a), some (qr l1), none, none] [] t D Q := vc_ok (cuts := [9, 17, 24, 32, 40, 48, 56, 61, 66, 68, 78]) 600 66 _ _ _ _ h
set_option maxRecDepth 100000 in
theorem b24_68 {S : (Nat → Int32) × Nat} {t : qT} {D : qD} {Q : Int → qT → qD → Prop} {l2 : Int} {a l1 : Nat} {o3 : Option qV} (h :
chk ((t.1 l1).1 = 0)
(chk (qR l2)
  (chk (qR (D l1 0))
    (if l2 < (D l1 0) then
      (wp S 24 78 [some (qr a), some (qr l1), some (qi l2), some (qi 0)] [] t D Q)
      else
      (Q 0 t D))))) : wp S 24 68 [some (qr a), some (qr l1), some (qi l2), o3] [] t D Q := vc_ok (cuts := [9, 17, 24, 32, 40, 48, 56, 61, 66, 68, 78]) 600 68 _ _ _ _ h
set_option maxRecDepth 100000 in
theorem b24_78 {S : (Nat → Int32) × Nat} {t : qT} {D : qD} {Q : Int → qT → qD → Prop} {l2 l3 : Int} {a l1 : Nat} (h :
chk ((t.1 l1).1 = 0)
(wp S 3 0 [some (qr l1), some (qi l2)] [] t D (fun x1 t1 D1 =>
    (chk (qR l3)
      (chk (qR x1)
        (if l3 < x1 then
          (chk ((t1.1 a).1 = 3)
            (wp S 103 0 [some (qi l2), some (qi l3)] [] t1 D1 (fun x2 t2 D2 =>
                (chk ((t2.1 l1).1 = 0)
                  (wp S 5 0 [some (qr l1), some (qi l2), some (qi l3), some (qi 0)] [] t2 D2 (fun x3 t3 D3 =>
                      (chk ((t3.1 (t1.2.1 a 1)).1 = 10)
                        (chk (0 ≤ x2 ∧ x2 < (t3.1 (t1.2.1 a 1)).2)
                        (wp S 24 78 [some (qr a), some (qr l1), some (qi l2), some (qi (l3 + 1))] [] t3 (up D3 (t1.2.1 a 1) x2 x3) Q)))))))))
          else
          (wp S 24 68 [some (qr a), some (qr l1), some (qi (l2 + 1)), some (qi l3)] [] t1 D1 Q))))))) : wp S 24 78 [some (qr a), some (qr l1), some (qi l2), some (qi l3)] [] t D Q := vc_ok (cuts := [9, 17, 24, 32, 40, 48, 56, 61, 66, 68, 78]) 600 78 _ _ _ _ h
/-! 25 X3_init_ -/
set_option maxRecDepth 100000 in
theorem b25_0 {S : (Nat → Int32) × Nat} {t : qT} {D : qD} {Q : Int → qT → qD → Prop} {a l1 : Nat} (h :
chk ((t.1 a).1 ≠ 8 ∧ 0 ≤ 8)
(chk ((t.1 l1).1 = 3)
  (chk ((t.1 a).1 = 3)
    (chk (qsP a 0 = none)
      (wp S 25 12 [some (qr a), some (qr l1)] [] (t.1, (upP t.2.1 a 0 (t.2.1 l1 0)), t.2.2) D Q))))) : wp S 25 0 [some (qr a), some (qr l1)] [] t D Q := vc_ok (cuts := [12, 26, 40, 54, 68, 82, 96, 104]) 600 0 _ _ _ _ h
set_option maxRecDepth 100000 in
theorem b25_12 {S : (Nat → Int32) × Nat} {t : qT} {D : qD} {Q : Int → qT → qD → Prop} {a l1 : Nat} (h :
chk ((t.1 l1).1 = 3)
(chk ((t.1 (t.2.1 l1 1)).1 = 10)
  (chk (((nwT t.1 t.2.2.1 (t.1 (t.2.1 l1 1))) t.2.2.1).1 = 10)
    (chk (((nwT t.1 t.2.2.1 (t.1 (t.2.1 l1 1))) a).1 = 3)
      (chk (qsP a 1 = none)
        (wp S 25 26 [some (qr a), some (qr l1)] [] ((nwT t.1 t.2.2.1 (t.1 (t.2.1 l1 1))), (upP (nwP t.2.1 t.2.2.1) a 1 t.2.2.1), ((t.2.2.1 + 1), (t.2.2.2 + (t.1 (t.2.1 l1 1)).2.toNat))) (upr D t.2.2.1 (D (t.2.1 l1 1))) Q)))))) : wp S 25 12 [some (qr a), some (qr l1)] [] t D Q := vc_ok (cuts := [12, 26, 40, 54, 68, 82, 96, 104]) 600 12 _ _ _ _ h
set_option maxRecDepth 100000 in
theorem b25_26 {S : (Nat → Int32) × Nat} {t : qT} {D : qD} {Q : Int → qT → qD → Prop} {a l1 : Nat} (h :
chk ((t.1 l1).1 = 3)
(chk ((t.1 (t.2.1 l1 2)).1 = 10)
  (chk (((nwT t.1 t.2.2.1 (t.1 (t.2.1 l1 2))) t.2.2.1).1 = 10)
    (chk (((nwT t.1 t.2.2.1 (t.1 (t.2.1 l1 2))) a).1 = 3)
      (chk (qsP a 2 = none)
        (wp S 25 40 [some (qr a), some (qr l1)] [] ((nwT t.1 t.2.2.1 (t.1 (t.2.1 l1 2))), (upP (nwP t.2.1 t.2.2.1) a 2 t.2.2.1), ((t.2.2.1 + 1), (t.2.2.2 + (t.1 (t.2.1 l1 2)).2.toNat))) (upr D t.2.2.1 (D (t.2.1 l1 2))) Q)))))) : wp S 25 26 [some (qr a), some (qr l1)] [] t D Q := vc_ok (cuts := [12, 26, 40, 54, 68, 82, 96, 104]) 600 26 _ _ _ _ h
set_option maxRecDepth 100000 in
theorem b25_40 {S : (Nat → Int32) × Nat} {t : qT} {D : qD} {Q : Int → qT → qD → Prop} {a l1 : Nat} (h :
chk ((t.1 l1).1 = 3)
(chk ((t.1 (t.2.1 l1 3)).1 = 10)
  (chk (((nwT t.1 t.2.2.1 (t.1 (t.2.1 l1 3))) t.2.2.1).1 = 10)
    (chk (((nwT t.1 t.2.2.1 (t.1 (t.2.1 l1 3))) a).1 = 3)
      (chk (qsP a 3 = none)
        (wp S 25 54 [some (qr a), some (qr l1)] [] ((nwT t.1 t.2.2.1 (t.1 (t.2.1 l1 3))), (upP (nwP t.2.1 t.2.2.1) a 3 t.2.2.1), ((t.2.2.1 + 1), (t.2.2.2 + (t.1 (t.2.1 l1 3)).2.toNat))) (upr D t.2.2.1 (D (t.2.1 l1 3))) Q)))))) : wp S 25 40 [some (qr a), some (qr l1)] [] t D Q := vc_ok (cuts := [12, 26, 40, 54, 68, 82, 96, 104]) 600 40 _ _ _ _ h
set_option maxRecDepth 100000 in
theorem b25_54 {S : (Nat → Int32) × Nat} {t : qT} {D : qD} {Q : Int → qT → qD → Prop} {a l1 : Nat} (h :
chk ((t.1 l1).1 = 3)
(chk ((t.1 (t.2.1 l1 4)).1 = 10)
  (chk (((nwT t.1 t.2.2.1 (t.1 (t.2.1 l1 4))) t.2.2.1).1 = 10)
    (chk (((nwT t.1 t.2.2.1 (t.1 (t.2.1 l1 4))) a).1 = 3)
      (chk (qsP a 4 = none)
        (wp S 25 68 [some (qr a), some (qr l1)] [] ((nwT t.1 t.2.2.1 (t.1 (t.2.1 l1 4))), (upP (nwP t.2.1 t.2.2.1) a 4 t.2.2.1), ((t.2.2.1 + 1), (t.2.2.2 + (t.1 (t.2.1 l1 4)).2.toNat))) (upr D t.2.2.1 (D (t.2.1 l1 4))) Q)))))) : wp S 25 54 [some (qr a), some (qr l1)] [] t D Q := vc_ok (cuts := [12, 26, 40, 54, 68, 82, 96, 104]) 600 54 _ _ _ _ h
set_option maxRecDepth 100000 in
theorem b25_68 {S : (Nat → Int32) × Nat} {t : qT} {D : qD} {Q : Int → qT → qD → Prop} {a l1 : Nat} (h :
chk ((t.1 l1).1 = 3)
(chk ((t.1 (t.2.1 l1 5)).1 = 10)
  (chk (((nwT t.1 t.2.2.1 (t.1 (t.2.1 l1 5))) t.2.2.1).1 = 10)
    (chk (((nwT t.1 t.2.2.1 (t.1 (t.2.1 l1 5))) a).1 = 3)
      (chk (qsP a 5 = none)
        (wp S 25 82 [some (qr a), some (qr l1)] [] ((nwT t.1 t.2.2.1 (t.1 (t.2.1 l1 5))), (upP (nwP t.2.1 t.2.2.1) a 5 t.2.2.1), ((t.2.2.1 + 1), (t.2.2.2 + (t.1 (t.2.1 l1 5)).2.toNat))) (upr D t.2.2.1 (D (t.2.1 l1 5))) Q)))))) : wp S 25 68 [some (qr a), some (qr l1)] [] t D Q := vc_ok (cuts := [12, 26, 40, 54, 68, 82, 96, 104]) 600 68 _ _ _ _ h
set_option maxRecDepth 100000 in
theorem b25_82 {S : (Nat → Int32) × Nat} {t : qT} {D : qD} {Q : Int → qT → qD → Prop} {a l1 : Nat} (h :
chk ((t.1 l1).1 = 3)
(chk ((t.1 (t.2.1 l1 6)).1 = 10)
  (chk (((nwT t.1 t.2.2.1 (t.1 (t.2.1 l1 6))) t.2.2.1).1 = 10)
    (chk (((nwT t.1 t.2.2.1 (t.1 (t.2.1 l1 6))) a).1 = 3)
      (chk (qsP a 6 = none)
        (wp S 25 96 [some (qr a), some (qr l1)] [] ((nwT t.1 t.2.2.1 (t.1 (t.2.1 l1 6))), (upP (nwP t.2.1 t.2.2.1) a 6 t.2.2.1), ((t.2.2.1 + 1), (t.2.2.2 + (t.1 (t.2.1 l1 6)).2.toNat))) (upr D t.2.2.1 (D (t.2.1 l1 6))) Q)))))) : wp S 25 82 [some (qr a), some (qr l1)] [] t D Q := vc_ok (cuts := [12, 26, 40, 54, 68, 82, 96, 104]) 600 82 _ _ _ _ h
set_option maxRecDepth 100000 in
theorem b25_96 {S : (Nat → Int32) × Nat} {t : qT} {D : qD} {Q : Int → qT → qD → Prop} {a l1 : Nat} (h :
chk ((t.1 l1).1 = 3)
(chk ((t.1 a).1 = 3)
  (wp S 25 104 [some (qr a), some (qr l1)] [] t (up D a 7 (D l1 7)) Q))) : wp S 25 96 [some (qr a), some (qr l1)] [] t D Q := vc_ok (cuts := [12, 26, 40, 54, 68, 82, 96, 104]) 600 96 _ _ _ _ h
set_option maxRecDepth 100000 in
theorem b25_104 {S : (Nat → Int32) × Nat} {t : qT} {D : qD} {Q : Int → qT → qD → Prop} {a l1 : Nat} (h :
chk ((t.1 l1).1 = 3)
(chk ((t.1 a).1 = 3)
  (Q 0 t (up D a 8 (D l1 8))))) : wp S 25 104 [some (qr a), some (qr l1)] [] t D Q := vc_ok (cuts := [12, 26, 40, 54, 68, 82, 96, 104]) 600 104 _ _ _ _ h
/-! 26 X3_levelOf -/
set_option maxRecDepth 100000 in
theorem b26_0 {S : (Nat → Int32) × Nat} {t : qT} {D : qD} {Q : Int → qT → qD → Prop} {l1 : Int} {a : Nat} (h :
chk ((t.1 a).1 = 3)
(Q (((D a 7) - 1) - l1) t D)) : wp S 26 0 [some (qr a), some (qi l1)] [] t D Q := vc_ok (cuts := []) 600 0 _ _ _ _ h
/-! 27 X3_latestAddress -/
set_option maxRecDepth 100000 in
theorem b27_0 {S : (Nat → Int32) × Nat} {t : qT} {D : qD} {Q : Int → qT → qD → Prop} {a : Nat} (h :
chk ((t.1 a).1 = 3)
(chk (qR (D a 7))
  (if 0 < (D a 7) then
    (chk ((t.1 a).1 = 3)
      (chk ((t.1 a).1 = 3)
        (chk ((t.1 (t.2.1 a 4)).1 = 10)
          (chk (0 ≤ ((D a 7) - 1) ∧ ((D a 7) - 1) < (t.1 (t.2.1 a 4)).2)
            (Q (D (t.2.1 a 4) ((D a 7) - 1)) t D)))))
    else
    (Q 0 t D)))) : wp S 27 0 [some (qr a)] [] t D Q := vc_ok (cuts := []) 600 0 _ _ _ _ h
/-! 28 X3_enter -/
set_option maxRecDepth 100000 in
theorem b28_0 {S : (Nat → Int32) × Nat} {t : qT} {D : qD} {Q : Int → qT → qD → Prop} {l1 : Int} {a : Nat} (h :
chk ((t.1 a).1 = 3)
(chk (qR (D a 7))
  (if (D a 7) < 8 then
    (chk ((t.1 a).1 = 3)
      (chk ((t.1 a).1 = 3)
        (chk ((t.1 (t.2.1 a 3)).1 = 10)
          (chk (0 ≤ (D a 7) ∧ (D a 7) < (t.1 (t.2.1 a 3)).2)
            (chk ((t.1 a).1 = 3)
              (chk ((t.1 a).1 = 3)
                (chk ((t.1 (t.2.1 a 4)).1 = 10)
                  (chk (0 ≤ ((up D (t.2.1 a 3) (D a 7) l1) a 7) ∧ ((up D (t.2.1 a 3) (D a 7) l1) a 7) < (t.1 (t.2.1 a 4)).2)
                    (wp S 28 32 [some (qr a), some (qi l1), some (qi 0)] [] t (up (up D (t.2.1 a 3) (D a 7) l1) (t.2.1 a 4) ((up D (t.2.1 a 3) (D a 7) l1) a 7) 0) Q)))))))))
    else
    (Q 0 t D)))) : wp S 28 0 [some (qr a), some (qi l1), none] [] t D Q := vc_ok (cuts := [32]) 600 0 _ _ _ _ h
set_option maxRecDepth 100000 in
theorem b28_32 {S : (Nat → Int32) × Nat} {t : qT} {D : qD} {Q : Int → qT → qD → Prop} {l1 l2 : Int} {a : Nat} (h :
chk (qR l2)
(if l2 < 6 then
  (chk ((t.1 a).1 = 3)
    (chk ((t.1 a).1 = 3)
      (chk ((t.1 (t.2.1 a 5)).1 = 10)
        (chk (0 ≤ (((D a 7) * 6) + l2) ∧ (((D a 7) * 6) + l2) < (t.1 (t.2.1 a 5)).2)
          (wp S 28 32 [some (qr a), some (qi l1), some (qi (l2 + 1))] [] t (up D (t.2.1 a 5) (((D a 7) * 6) + l2) 0) Q)))))
  else
  (chk ((t.1 a).1 = 3)
    (chk ((t.1 a).1 = 3)
      (chk ((t.1 a).1 = 3)
        (wp S 30 0 [some (qr a), none, none, none] [] t (up D a 7 ((D a 7) + 1)) (fun _ t1 D1 =>
            (Q 0 t1 D1)))))))) : wp S 28 32 [some (qr a), some (qi l1), some (qi l2)] [] t D Q := vc_ok (cuts := [32]) 600 32 _ _ _ _ h
/-! 29 X3_step -/
set_option maxRecDepth 100000 in
theorem b29_0 {S : (Nat → Int32) × Nat} {t : qT} {D : qD} {Q : Int → qT → qD → Prop} {a : Nat} (h :
chk ((t.1 a).1 = 3)
(chk (qR (D a 7))
  (if 0 < (D a 7) then
    (chk ((t.1 a).1 = 3)
      (chk ((t.1 a).1 = 3)
        (chk ((t.1 (t.2.1 a 4)).1 = 10)
          (chk (0 ≤ ((D a 7) - 1) ∧ ((D a 7) - 1) < (t.1 (t.2.1 a 4)).2)
            (chk ((t.1 (t.2.1 a 4)).1 = 10)
              (chk (0 ≤ ((D a 7) - 1) ∧ ((D a 7) - 1) < (t.1 (t.2.1 a 4)).2)
                (chk ((t.1 a).1 = 3)
                  (wp S 30 0 [some (qr a), none, none, none] [] t (up D (t.2.1 a 4) ((D a 7) - 1) ((D (t.2.1 a 4) ((D a 7) - 1)) + 1)) (fun _ t1 D1 =>
                      (Q 0 t1 D1))))))))))
    else
    (Q 0 t D)))) : wp S 29 0 [some (qr a)] [] t D Q := vc_ok (cuts := []) 600 0 _ _ _ _ h
/-! 30 X3_saveAtLatest -/
set_option maxRecDepth 100000 in
theorem b30_0 {S : (Nat → Int32) × Nat} {t : qT} {D : qD} {Q : Int → qT → qD → Prop} {a : Nat} (h :
chk ((t.1 a).1 = 3)
(chk ((t.1 a).1 = 3)
  (chk ((t.1 (t.2.1 a 3)).1 = 10)
    (chk (0 ≤ ((D a 7) - 1) ∧ ((D a 7) - 1) < (t.1 (t.2.1 a 3)).2)
      (wp S 30 16 [some (qr a), some (qi ((D a 7) - 1)), some (qi (D (t.2.1 a 3) ((D a 7) - 1))), some (qi 0)] [] t D Q))))) : wp S 30 0 [some (qr a), none, none, none] [] t D Q := vc_ok (cuts := [16]) 600 0 _ _ _ _ h
set_option maxRecDepth 100000 in
theorem b30_16 {S : (Nat → Int32) × Nat} {t : qT} {D : qD} {Q : Int → qT → qD → Prop} {l1 l2 l3 : Int} {a : Nat} (h :
chk ((t.1 a).1 = 3)
(chk ((t.1 (t.2.1 a 0)).1 = 0)
  (wp S 7 0 [some (qr (t.2.1 a 0)), some (qi l2)] [] t D (fun x1 t1 D1 =>
      (chk (qR l3)
        (chk (qR x1)
          (if l3 < x1 then
            (chk ((t1.1 a).1 = 3)
              (chk ((t1.1 (t1.2.1 a 0)).1 = 0)
                (wp S 8 0 [some (qr (t1.2.1 a 0)), some (qi l2), some (qi l3)] [] t1 D1 (fun x2 t2 D2 =>
                    (chk ((t2.1 a).1 = 3)
                      (chk ((t2.1 (t2.2.1 a 4)).1 = 10)
                        (chk (0 ≤ l1 ∧ l1 < (t2.1 (t2.2.1 a 4)).2)
                        (chk (qR x2)
                        (chk (qR (D2 (t2.2.1 a 4) l1))
                        (if x2 = (D2 (t2.2.1 a 4) l1) then
                        (chk ((t2.1 a).1 = 3)
                        (chk ((t2.1 a).1 = 3)
                        (chk ((t2.1 (t2.2.1 a 0)).1 = 0)
                        (wp S 10 0 [some (qr (t2.2.1 a 0)), some (qi l2), some (qi l3)] [] t2 D2 (fun x3 t3 D3 =>
                        (chk ((t3.1 a).1 = 3)
                        (chk ((t3.1 a).1 = 3)
                        (chk ((t3.1 (t3.2.1 a 0)).1 = 0)
                        (wp S 9 0 [some (qr (t3.2.1 a 0)), some (qi l2), some (qi l3)] [] t3 D3 (fun x4 t4 D4 =>
                        (chk ((t4.1 (t3.2.1 a 2)).1 = 10)
                        (chk (0 ≤ x4 ∧ x4 < (t4.1 (t3.2.1 a 2)).2)
                        (chk ((t4.1 (t2.2.1 a 5)).1 = 10)
                        (chk (0 ≤ ((l1 * 6) + x3) ∧ ((l1 * 6) + x3) < (t4.1 (t2.2.1 a 5)).2)
                        (wp S 30 16 [some (qr a), some (qi l1), some (qi l2), some (qi (l3 + 1))] [] t4 (up D4 (t2.2.1 a 5) ((l1 * 6) + x3) (D4 (t3.2.1 a 2) x4)) Q)))))))))))))))
                        else
                        (wp S 30 16 [some (qr a), some (qi l1), some (qi l2), some (qi (l3 + 1))] [] t2 D2 Q)))))))))))
            else
            (Q 0 t1 D1)))))))) : wp S 30 16 [some (qr a), some (qi l1), some (qi l2), some (qi l3)] [] t D Q := vc_ok (cuts := [16]) 600 16 _ _ _ _ h
/-! 31 X3_leave -/
set_option maxRecDepth 100000 in
theorem b31_0 {S : (Nat → Int32) × Nat} {t : qT} {D : qD} {Q : Int → qT → qD → Prop} {a : Nat} (h :
chk ((t.1 a).1 = 3)
(chk (qR (D a 7))
  (if (D a 7) < 1 then
    (Q 0 t D)
    else
    (wp S 31 11 [some (qr a), some (qi 0)] [] t D Q)))) : wp S 31 0 [some (qr a), none] [] t D Q := vc_ok (cuts := [11]) 600 0 _ _ _ _ h
set_option maxRecDepth 100000 in
theorem b31_11 {S : (Nat → Int32) × Nat} {t : qT} {D : qD} {Q : Int → qT → qD → Prop} {l1 : Int} {a : Nat} (h :
chk (qR l1)
(if l1 < 4 then
  (chk ((t.1 a).1 = 3)
    (chk ((t.1 a).1 = 3)
      (chk ((t.1 a).1 = 3)
        (chk ((t.1 (t.2.1 a 2)).1 = 10)
          (chk (0 ≤ l1 ∧ l1 < (t.1 (t.2.1 a 2)).2)
            (chk ((t.1 a).1 = 3)
              (wp S 32 0 [some (qr a), some (qi ((D a 7) - 1)), some (qi l1), some (qi (D (t.2.1 a 2) l1)), none] [] t D (fun x1 t1 D1 =>
                  (chk ((t1.1 (t.2.1 a 2)).1 = 10)
                    (chk (0 ≤ l1 ∧ l1 < (t1.1 (t.2.1 a 2)).2)
                      (wp S 31 11 [some (qr a), some (qi (l1 + 1))] [] t1 (up D1 (t.2.1 a 2) l1 x1) Q)))))))))))
  else
  (chk ((t.1 a).1 = 3)
    (chk ((t.1 a).1 = 3)
      (Q 0 t (up D a 7 ((D a 7) - 1))))))) : wp S 31 11 [some (qr a), some (qi l1)] [] t D Q := vc_ok (cuts := [11]) 600 11 _ _ _ _ h
/-! 32 X3_behindBack -/
set_option maxRecDepth 100000 in
theorem b32_0 {S : (Nat → Int32) × Nat} {t : qT} {D : qD} {Q : Int → qT → qD → Prop} {l1 l2 l3 : Int} {a : Nat} (h :
chk ((t.1 a).1 = 3)
(chk ((t.1 a).1 = 3)
  (chk ((t.1 (t.2.1 a 3)).1 = 10)
    (chk (0 ≤ l1 ∧ l1 < (t.1 (t.2.1 a 3)).2)
      (chk ((t.1 a).1 = 3)
        (chk ((t.1 (t.2.1 a 4)).1 = 10)
          (chk (0 ≤ l1 ∧ l1 < (t.1 (t.2.1 a 4)).2)
            (chk ((t.1 (t.2.1 a 0)).1 = 0)
              (wp S 1 0 [some (qr (t.2.1 a 0)), some (qi (D (t.2.1 a 3) l1)), some (qi (D (t.2.1 a 4) l1)), some (qi l2)] [] t D (fun x1 t1 D1 =>
                  (chk (qR x1)
                    (if x1 = (-1) then
                      (Q l3 t1 D1)
                      else
                      (chk ((t1.1 a).1 = 3)
                        (chk ((t1.1 (t1.2.1 a 5)).1 = 10)
                        (chk (0 ≤ ((l1 * 6) + x1) ∧ ((l1 * 6) + x1) < (t1.1 (t1.2.1 a 5)).2)
                        (Q (D1 (t1.2.1 a 5) ((l1 * 6) + x1)) t1 D1)))))))))))))))) : wp S 32 0 [some (qr a), some (qi l1), some (qi l2), some (qi l3), none] [] t D Q := vc_ok (cuts := []) 600 0 _ _ _ _ h
/-! 33 X3_callerOf -/
set_option maxRecDepth 100000 in
theorem b33_0 {S : (Nat → Int32) × Nat} {t : qT} {D : qD} {Q : Int → qT → qD → Prop} {l1 l2 : Int} {a : Nat} (h :
chk ((t.1 a).1 = 3)
(chk ((t.1 (t.2.1 a 2)).1 = 10)
  (chk (0 ≤ l2 ∧ l2 < (t.1 (t.2.1 a 2)).2)
    (chk ((t.1 a).1 = 3)
      (wp S 33 15 [some (qr a), some (qi l1), some (qi l2), some (qi (D (t.2.1 a 2) l2)), some (qi ((D a 7) - 1))] [] t D Q))))) : wp S 33 0 [some (qr a), some (qi l1), some (qi l2), none, none] [] t D Q := vc_ok (cuts := [15]) 600 0 _ _ _ _ h
set_option maxRecDepth 100000 in
theorem b33_15 {S : (Nat → Int32) × Nat} {t : qT} {D : qD} {Q : Int → qT → qD → Prop} {l1 l2 l3 l4 : Int} {a : Nat} (h :
chk (qR l4)
(chk (qR l1)
  (if l4 < l1 then
    (Q l3 t D)
    else
    (chk (qR l4)
      (if l4 < 0 then
        (Q l3 t D)
        else
        (chk ((t.1 a).1 = 3)
          (wp S 32 0 [some (qr a), some (qi l4), some (qi l2), some (qi l3), none] [] t D (fun x1 t1 D1 =>
              (wp S 33 15 [some (qr a), some (qi l1), some (qi l2), some (qi x1), some (qi (l4 + (-1)))] [] t1 D1 Q))))))))) : wp S 33 15 [some (qr a), some (qi l1), some (qi l2), some (qi l3), some (qi l4)] [] t D Q := vc_ok (cuts := [15]) 600 15 _ _ _ _ h
/-! 34 X3_catcherOf -/
set_option maxRecDepth 100000 in
theorem b34_0 {S : (Nat → Int32) × Nat} {t : qT} {D : qD} {Q : Int → qT → qD → Prop} {l1 : Int} {a : Nat} (h :
wp S 34 2 [some (qr a), some (qi l1), some (qi 0), none, none] [] t D Q) : wp S 34 0 [some (qr a), some (qi l1), none, none, none] [] t D Q := vc_ok (cuts := [2, 19]) 600 0 _ _ _ _ h
set_option maxRecDepth 100000 in
theorem b34_2 {S : (Nat → Int32) × Nat} {t : qT} {D : qD} {Q : Int → qT → qD → Prop} {l1 l2 : Int} {a : Nat} {o3 o4 : Option qV} (h :
chk ((t.1 a).1 = 3)
(chk (qR l2)
  (chk (qR (D a 7))
    (if l2 < (D a 7) then
      (chk ((t.1 a).1 = 3)
        (wp S 26 0 [some (qr a), some (qi l2)] [] t D (fun x1 t1 D1 =>
            (wp S 34 19 [some (qr a), some (qi l1), some (qi l2), some (qi x1), some (qi 0)] [] t1 D1 Q))))
      else
      (Q (-1) t D))))) : wp S 34 2 [some (qr a), some (qi l1), some (qi l2), o3, o4] [] t D Q := vc_ok (cuts := [2, 19]) 600 2 _ _ _ _ h
set_option maxRecDepth 100000 in
theorem b34_19 {S : (Nat → Int32) × Nat} {t : qT} {D : qD} {Q : Int → qT → qD → Prop} {l1 l2 l3 l4 : Int} {a : Nat} (h :
chk ((t.1 a).1 = 3)
(chk ((t.1 a).1 = 3)
  (chk ((t.1 (t.2.1 a 3)).1 = 10)
    (chk (0 ≤ l3 ∧ l3 < (t.1 (t.2.1 a 3)).2)
      (chk ((t.1 (t.2.1 a 0)).1 = 0)
        (wp S 3 0 [some (qr (t.2.1 a 0)), some (qi (D (t.2.1 a 3) l3))] [] t D (fun x1 t1 D1 =>
            (chk (qR l4)
              (chk (qR x1)
                (if l4 < x1 then
                  (chk ((t1.1 a).1 = 3)
                    (wp S 35 0 [some (qr a), some (qi l3), some (qi l4), some (qi l1), none, none] [] t1 D1 (fun x2 t2 D2 =>
                        (chk (qR x2)
                        (if x2 = 1 then
                        (Q ((l2 * 3) + l4) t2 D2)
                        else
                        (wp S 34 19 [some (qr a), some (qi l1), some (qi l2), some (qi l3), some (qi (l4 + 1))] [] t2 D2 Q))))))
                  else
                  (wp S 34 2 [some (qr a), some (qi l1), some (qi (l2 + 1)), some (qi l3), some (qi l4)] [] t1 D1 Q))))))))))) : wp S 34 19 [some (qr a), some (qi l1), some (qi l2), some (qi l3), some (qi l4)] [] t D Q := vc_ok (cuts := [2, 19]) 600 19 _ _ _ _ h
/-! 35 X3_deedAt -/
set_option maxRecDepth 100000 in
theorem b35_0 {S : (Nat → Int32) × Nat} {t : qT} {D : qD} {Q : Int → qT → qD → Prop} {l1 l2 l3 : Int} {a : Nat} (h :
chk ((t.1 a).1 = 3)
(chk ((t.1 (t.2.1 a 3)).1 = 10)
  (chk (0 ≤ l1 ∧ l1 < (t.1 (t.2.1 a 3)).2)
    (chk ((t.1 a).1 = 3)
      (chk ((t.1 (t.2.1 a 4)).1 = 10)
        (chk (0 ≤ l1 ∧ l1 < (t.1 (t.2.1 a 4)).2)
          (chk ((t.1 a).1 = 3)
            (chk ((t.1 (t.2.1 a 0)).1 = 0)
              (wp S 5 0 [some (qr (t.2.1 a 0)), some (qi (D (t.2.1 a 3) l1)), some (qi l2), some (qi 1)] [] t D (fun x1 t1 D1 =>
                  (chk (qR (D (t.2.1 a 4) l1))
                    (chk (qR x1)
                      (if (D (t.2.1 a 4) l1) < x1 then
                        (Q 0 t1 D1)
                        else
                        (chk ((t1.1 a).1 = 3)
                        (chk ((t1.1 (t1.2.1 a 0)).1 = 0)
                        (wp S 5 0 [some (qr (t1.2.1 a 0)), some (qi (D (t.2.1 a 3) l1)), some (qi l2), some (qi 2)] [] t1 D1 (fun x2 t2 D2 =>
                        (chk (qR (D (t.2.1 a 4) l1))
                        (chk (qR x2)
                        (if x2 < (D (t.2.1 a 4) l1) then
                        (Q 0 t2 D2)
                        else
                        (chk ((t2.1 a).1 = 3)
                        (wp S 103 0 [some (qi (D (t.2.1 a 3) l1)), some (qi l2)] [] t2 D2 (fun x3 t3 D3 =>
                        (chk ((t3.1 (t2.2.1 a 1)).1 = 10)
                        (chk (0 ≤ x3 ∧ x3 < (t3.1 (t2.2.1 a 1)).2)
                        (chk ((t3.1 a).1 = 3)
                        (chk ((t3.1 (t3.2.1 a 0)).1 = 0)
                        (wp S 5 0 [some (qr (t3.2.1 a 0)), some (qi (D (t.2.1 a 3) l1)), some (qi l2), some (qi 3)] [] t3 D3 (fun x4 t4 D4 =>
                        (wp S 106 0 [some (qi (D3 (t2.2.1 a 1) x3)), some (qi x4), some (qi l3)] [] t4 D4 (fun x5 t5 D5 =>
                        (Q x5 t5 D5)))))))))))))))))))))))))))))))) : wp S 35 0 [some (qr a), some (qi l1), some (qi l2), some (qi l3), none, none] [] t D Q := vc_ok (cuts := []) 600 0 _ _ _ _ h
/-! 36 X3_countFinishing -/
set_option maxRecDepth 100000 in
theorem b36_0 {S : (Nat → Int32) × Nat} {t : qT} {D : qD} {Q : Int → qT → qD → Prop} {l1 l2 : Int} {a : Nat} (h :
wp S 36 5 [some (qr a), some (qi l1), some (qi l2), some (qi 0), some (qi 0), none] [] t D Q) : wp S 36 0 [some (qr a), some (qi l1), some (qi l2), none, none, none] [] t D Q := vc_ok (cuts := [5]) 600 0 _ _ _ _ h
set_option maxRecDepth 100000 in
theorem b36_5 {S : (Nat → Int32) × Nat} {t : qT} {D : qD} {Q : Int → qT → qD → Prop} {l1 l2 l3 l4 : Int} {a : Nat} {o5 : Option qV} (h :
chk (qR l4)
(chk (qR l1)
  (if l4 < l1 then
    (chk (0 ≤ l4 ∧ l4 < 2147483648)
      (chk ((t.1 a).1 = 3)
        (wp S 26 0 [some (qr a), some (qi (l4 / 3))] [] t D (fun x1 t1 D1 =>
            (chk (0 ≤ l4 ∧ l4 < 2147483648)
              (chk ((t1.1 a).1 = 3)
                (chk ((t1.1 a).1 = 3)
                  (chk ((t1.1 (t1.2.1 a 3)).1 = 10)
                    (chk (0 ≤ x1 ∧ x1 < (t1.1 (t1.2.1 a 3)).2)
                      (chk ((t1.1 (t1.2.1 a 0)).1 = 0)
                        (wp S 3 0 [some (qr (t1.2.1 a 0)), some (qi (D1 (t1.2.1 a 3) x1))] [] t1 D1 (fun x2 t2 D2 =>
                        (chk (qR (l4 % 3))
                        (chk (qR x2)
                        (if (l4 % 3) < x2 then
                        (chk (0 ≤ l4 ∧ l4 < 2147483648)
                        (chk ((t2.1 a).1 = 3)
                        (wp S 35 0 [some (qr a), some (qi x1), some (qi (l4 % 3)), some (qi l2), none, none] [] t2 D2 (fun x3 t3 D3 =>
                        (chk (qR x3)
                        (if x3 = 2 then
                        (wp S 36 5 [some (qr a), some (qi l1), some (qi l2), some (qi (l3 + 1)), some (qi (l4 + 1)), some (qi x1)] [] t3 D3 Q)
                        else
                        (wp S 36 5 [some (qr a), some (qi l1), some (qi l2), some (qi l3), some (qi (l4 + 1)), some (qi x1)] [] t3 D3 Q)))))))
                        else
                        (wp S 36 5 [some (qr a), some (qi l1), some (qi l2), some (qi l3), some (qi (l4 + 1)), some (qi x1)] [] t2 D2 Q))))))))))))))))
    else
    (Q l3 t D)))) : wp S 36 5 [some (qr a), some (qi l1), some (qi l2), some (qi l3), some (qi l4), o5] [] t D Q := vc_ok (cuts := [5]) 600 5 _ _ _ _ h
/-! 37 X3_unwindTo -/
set_option maxRecDepth 100000 in
theorem b37_0 {S : (Nat → Int32) × Nat} {t : qT} {D : qD} {Q : Int → qT → qD → Prop} {l1 l2 : Int} {a : Nat} (h :
chk (0 ≤ l1 ∧ l1 < 2147483648)
(chk (qR l1)
  (if l1 < 0 then
    (Q 0 t D)
    else
    (chk ((t.1 a).1 = 3)
      (chk (qR (l1 / 3))
        (chk (qR (D a 7))
          (if (l1 / 3) < (D a 7) then
            (chk ((t.1 a).1 = 3)
              (wp S 37 25 [some (qr a), some (qi l1), some (qi l2), some (qi (l1 / 3)), some (qi 0)] [] t (up D a 8 0) Q))
            else
            (Q 0 t D)))))))) : wp S 37 0 [some (qr a), some (qi l1), some (qi l2), none, none] [] t D Q := vc_ok (cuts := [25]) 600 0 _ _ _ _ h
set_option maxRecDepth 100000 in
theorem b37_25 {S : (Nat → Int32) × Nat} {t : qT} {D : qD} {Q : Int → qT → qD → Prop} {l1 l2 l3 l4 : Int} {a : Nat} (h :
chk (qR l4)
(chk (qR l3)
  (if l4 < l3 then
    (chk ((t.1 a).1 = 3)
      (chk ((t.1 a).1 = 3)
        (chk ((t.1 a).1 = 3)
          (chk ((t.1 (t.2.1 a 3)).1 = 10)
            (chk (0 ≤ ((D a 7) - 1) ∧ ((D a 7) - 1) < (t.1 (t.2.1 a 3)).2)
              (chk ((t.1 (t.2.1 a 0)).1 = 0)
                (wp S 3 0 [some (qr (t.2.1 a 0)), some (qi (D (t.2.1 a 3) ((D a 7) - 1)))] [] t D (fun x1 t1 D1 =>
                    (chk ((t1.1 a).1 = 3)
                      (wp S 38 0 [some (qr a), some (qi x1), some (qi l2), none, none] [] t1 D1 (fun _ t2 D2 =>
                        (chk ((t2.1 a).1 = 3)
                        (wp S 31 0 [some (qr a), none] [] t2 D2 (fun _ t3 D3 =>
                        (wp S 37 25 [some (qr a), some (qi l1), some (qi l2), some (qi l3), some (qi (l4 + 1))] [] t3 D3 Q)))))))))))))))
    else
    (chk (0 ≤ l1 ∧ l1 < 2147483648)
      (chk ((t.1 a).1 = 3)
        (wp S 38 0 [some (qr a), some (qi (l1 % 3)), some (qi l2), none, none] [] t D (fun _ t4 D4 =>
            (chk ((t4.1 a).1 = 3)
              (chk ((t4.1 a).1 = 3)
                (chk ((t4.1 a).1 = 3)
                  (chk ((t4.1 a).1 = 3)
                    (chk ((t4.1 a).1 = 3)
                      (chk ((t4.1 (t4.2.1 a 3)).1 = 10)
                        (chk (0 ≤ ((D4 a 7) - 1) ∧ ((D4 a 7) - 1) < (t4.1 (t4.2.1 a 3)).2)
                        (chk (0 ≤ l1 ∧ l1 < 2147483648)
                        (chk ((t4.1 (t4.2.1 a 0)).1 = 0)
                        (wp S 5 0 [some (qr (t4.2.1 a 0)), some (qi (D4 (t4.2.1 a 3) ((D4 a 7) - 1))), some (qi (l1 % 3)), some (qi 4)] [] t4 D4 (fun x5 t5 D5 =>
                        (chk ((t5.1 (t4.2.1 a 4)).1 = 10)
                        (chk (0 ≤ ((D4 a 7) - 1) ∧ ((D4 a 7) - 1) < (t5.1 (t4.2.1 a 4)).2)
                        (Q 0 t5 (up D5 (t4.2.1 a 4) ((D4 a 7) - 1) x5)))))))))))))))))))))) : wp S 37 25 [some (qr a), some (qi l1), some (qi l2), some (qi l3), some (qi l4)] [] t D Q := vc_ok (cuts := [25]) 600 25 _ _ _ _ h
/-! 38 X3_finishAtLatest -/
set_option maxRecDepth 100000 in
theorem b38_0 {S : (Nat → Int32) × Nat} {t : qT} {D : qD} {Q : Int → qT → qD → Prop} {l1 l2 : Int} {a : Nat} (h :
chk ((t.1 a).1 = 3)
(wp S 38 10 [some (qr a), some (qi l1), some (qi l2), some (qi ((D a 7) - 1)), some (qi 0)] [] t D Q)) : wp S 38 0 [some (qr a), some (qi l1), some (qi l2), none, none] [] t D Q := vc_ok (cuts := [10]) 600 0 _ _ _ _ h
set_option maxRecDepth 100000 in
theorem b38_10 {S : (Nat → Int32) × Nat} {t : qT} {D : qD} {Q : Int → qT → qD → Prop} {l1 l2 l3 l4 : Int} {a : Nat} (h :
chk (qR l4)
(chk (qR l1)
  (if l4 < l1 then
    (chk ((t.1 a).1 = 3)
      (chk ((t.1 a).1 = 3)
        (chk ((t.1 (t.2.1 a 6)).1 = 10)
          (chk (qR (D a 8))
            (chk (qR (t.1 (t.2.1 a 6)).2)
              (if (D a 8) < (t.1 (t.2.1 a 6)).2 then
                (chk ((t.1 a).1 = 3)
                  (wp S 35 0 [some (qr a), some (qi l3), some (qi l4), some (qi l2), none, none] [] t D (fun x1 t1 D1 =>
                      (chk (qR x1)
                        (if x1 = 2 then
                        (chk ((t1.1 a).1 = 3)
                        (chk ((t1.1 a).1 = 3)
                        (chk ((t1.1 a).1 = 3)
                        (chk ((t1.1 (t1.2.1 a 3)).1 = 10)
                        (chk (0 ≤ l3 ∧ l3 < (t1.1 (t1.2.1 a 3)).2)
                        (chk ((t1.1 (t1.2.1 a 6)).1 = 10)
                        (chk (0 ≤ (D1 a 8) ∧ (D1 a 8) < (t1.1 (t1.2.1 a 6)).2)
                        (chk ((t1.1 a).1 = 3)
                        (chk ((t1.1 a).1 = 3)
                        (wp S 38 10 [some (qr a), some (qi l1), some (qi l2), some (qi l3), some (qi (l4 + 1))] [] t1 (up (up D1 (t1.2.1 a 6) (D1 a 8) ((10 * (D1 (t1.2.1 a 3) l3)) + l4)) a 8 (((up D1 (t1.2.1 a 6) (D1 a 8) ((10 * (D1 (t1.2.1 a 3) l3)) + l4)) a 8) + 1)) Q))))))))))
                        else
                        (wp S 38 10 [some (qr a), some (qi l1), some (qi l2), some (qi l3), some (qi (l4 + 1))] [] t1 D1 Q))))))
                else
                (Q 0 t D)))))))
    else
    (Q 0 t D)))) : wp S 38 10 [some (qr a), some (qi l1), some (qi l2), some (qi l3), some (qi l4)] [] t D Q := vc_ok (cuts := [10]) 600 10 _ _ _ _ h
/-! 40 X4_write -/
set_option maxRecDepth 100000 in
theorem b40_0 {S : (Nat → Int32) × Nat} {t : qT} {D : qD} {Q : Int → qT → qD → Prop} {l1 : Int} (h :
chk (qR (D 1 1))
(if (D 1 1) < 100 then
  (chk (0 ≤ (D 1 1) ∧ (D 1 1) < 100)
    (Q 0 t (up (up D 2 (D 1 1) l1) 1 1 (((up D 2 (D 1 1) l1) 1 1) + 1))))
  else
  (Q 0 t D))) : wp S 40 0 [some (qs 1), some (qi l1)] [] t D Q := vc_ok (cuts := []) 600 0 _ _ _ _ h
/-! 41 X4_codeAt -/
set_option maxRecDepth 100000 in
theorem b41_0 {S : (Nat → Int32) × Nat} {t : qT} {D : qD} {Q : Int → qT → qD → Prop} {l1 : Int} (h :
wp S 102 0 [some (qi l1), some (qi (D 1 1))] [] t D (fun x1 t1 D1 =>
  (chk (qR x1)
    (if x1 = 0 then
      (Q 0 t1 D1)
      else
      (chk (0 ≤ l1 ∧ l1 < 100)
        (Q (D1 2 l1) t1 D1)))))) : wp S 41 0 [some (qs 1), some (qi l1)] [] t D Q := vc_ok (cuts := []) 600 0 _ _ _ _ h
/-! 42 X4_digitAt -/
set_option maxRecDepth 100000 in
theorem b42_0 {S : (Nat → Int32) × Nat} {t : qT} {D : qD} {Q : Int → qT → qD → Prop} {l1 : Int} (h :
wp S 41 0 [some (qs 1), some (qi l1)] [] t D (fun x1 t1 D1 =>
  (Q (x1 - 48) t1 D1))) : wp S 42 0 [some (qs 1), some (qi l1)] [] t D Q := vc_ok (cuts := []) 600 0 _ _ _ _ h
end
section
/-! blocks, written by wip/whole/mkblk.py: what each stretch of a method asks -/
/-! 43 X5_init -/
set_option maxRecDepth 100000 in
theorem b43_0 {S : (Nat → Int32) × Nat} {t : qT} {D : qD} {Q : Int → qT → qD → Prop} {a : Nat} (h :
chk ((t.1 a).1 ≠ 8 ∧ 0 ≤ 8)
(chk ((t.1 a).1 = 5)
  (wp S 43 9 [some (qr a)] [] t (up D a 0 0) Q))) : wp S 43 0 [some (qr a)] [] t D Q := vc_ok (cuts := [9, 14, 19, 24, 29, 34]) 600 0 _ _ _ _ h
set_option maxRecDepth 100000 in
theorem b43_9 {S : (Nat → Int32) × Nat} {t : qT} {D : qD} {Q : Int → qT → qD → Prop} {a : Nat} (h :
chk ((t.1 a).1 = 5)
(wp S 43 14 [some (qr a)] [] t (up D a 1 1) Q)) : wp S 43 9 [some (qr a)] [] t D Q := vc_ok (cuts := [9, 14, 19, 24, 29, 34]) 600 9 _ _ _ _ h
set_option maxRecDepth 100000 in
theorem b43_14 {S : (Nat → Int32) × Nat} {t : qT} {D : qD} {Q : Int → qT → qD → Prop} {a : Nat} (h :
chk ((t.1 a).1 = 5)
(wp S 43 19 [some (qr a)] [] t (up D a 2 0) Q)) : wp S 43 14 [some (qr a)] [] t D Q := vc_ok (cuts := [9, 14, 19, 24, 29, 34]) 600 14 _ _ _ _ h
set_option maxRecDepth 100000 in
theorem b43_19 {S : (Nat → Int32) × Nat} {t : qT} {D : qD} {Q : Int → qT → qD → Prop} {a : Nat} (h :
chk ((t.1 a).1 = 5)
(wp S 43 24 [some (qr a)] [] t (up D a 3 0) Q)) : wp S 43 19 [some (qr a)] [] t D Q := vc_ok (cuts := [9, 14, 19, 24, 29, 34]) 600 19 _ _ _ _ h
set_option maxRecDepth 100000 in
theorem b43_24 {S : (Nat → Int32) × Nat} {t : qT} {D : qD} {Q : Int → qT → qD → Prop} {a : Nat} (h :
chk ((t.1 a).1 = 5)
(wp S 43 29 [some (qr a)] [] t (up D a 4 0) Q)) : wp S 43 24 [some (qr a)] [] t D Q := vc_ok (cuts := [9, 14, 19, 24, 29, 34]) 600 24 _ _ _ _ h
set_option maxRecDepth 100000 in
theorem b43_29 {S : (Nat → Int32) × Nat} {t : qT} {D : qD} {Q : Int → qT → qD → Prop} {a : Nat} (h :
chk ((t.1 a).1 = 5)
(wp S 43 34 [some (qr a)] [] t (up D a 5 0) Q)) : wp S 43 29 [some (qr a)] [] t D Q := vc_ok (cuts := [9, 14, 19, 24, 29, 34]) 600 29 _ _ _ _ h
set_option maxRecDepth 100000 in
theorem b43_34 {S : (Nat → Int32) × Nat} {t : qT} {D : qD} {Q : Int → qT → qD → Prop} {a : Nat} (h :
chk ((t.1 a).1 = 5)
(Q 0 t (up D a 6 0))) : wp S 43 34 [some (qr a)] [] t D Q := vc_ok (cuts := [9, 14, 19, 24, 29, 34]) 600 34 _ _ _ _ h
/-! 44 X5_firstFault -/
set_option maxRecDepth 100000 in
theorem b44_0 {S : (Nat → Int32) × Nat} {t : qT} {D : qD} {Q : Int → qT → qD → Prop} {a : Nat} (h :
wp S 44 2 [some (qr a), some (qs 1), some (qi 0)] [] t D Q) : wp S 44 0 [some (qr a), some (qs 1), none] [] t D Q := vc_ok (cuts := [2]) 600 0 _ _ _ _ h
set_option maxRecDepth 100000 in
theorem b44_2 {S : (Nat → Int32) × Nat} {t : qT} {D : qD} {Q : Int → qT → qD → Prop} {l2 : Int} {a : Nat} (h :
chk (qR l2)
(chk (qR (D 1 1))
  (if l2 < (D 1 1) then
    (wp S 41 0 [some (qs 1), some (qi l2)] [] t D (fun x1 t1 D1 =>
        (chk ((t1.1 a).1 = 5)
          (wp S 46 0 [some (qr a), some (qi x1)] [] t1 D1 (fun x2 t2 D2 =>
              (chk (qR x2)
                (if x2 = 0 then
                  (Q l2 t2 D2)
                  else
                  (wp S 44 2 [some (qr a), some (qs 1), some (qi (l2 + 1))] [] t2 D2 Q))))))))
    else
    (Q (D 1 1) t D)))) : wp S 44 2 [some (qr a), some (qs 1), some (qi l2)] [] t D Q := vc_ok (cuts := [2]) 600 2 _ _ _ _ h
/-! 45 X5_mayEnd -/
set_option maxRecDepth 100000 in
theorem b45_0 {S : (Nat → Int32) × Nat} {t : qT} {D : qD} {Q : Int → qT → qD → Prop} {a : Nat} (h :
chk ((t.1 a).1 = 5)
(chk (qR (D a 0))
  (if (D a 0) = 5 then
    (Q 1 t D)
    else
    (Q 0 t D)))) : wp S 45 0 [some (qr a)] [] t D Q := vc_ok (cuts := []) 600 0 _ _ _ _ h
/-! 46 X5_takes -/
set_option maxRecDepth 100000 in
theorem b46_0 {S : (Nat → Int32) × Nat} {t : qT} {D : qD} {Q : Int → qT → qD → Prop} {l1 : Int} {a : Nat} (h :
chk ((t.1 a).1 = 5)
(chk (qR (D a 0))
  (if (D a 0) = 0 then
    (chk ((t.1 a).1 = 5)
      (wp S 47 0 [some (qr a), some (qi l1)] [] t D (fun x1 t1 D1 =>
          (chk (x1 = 0 ∨ x1 = 1)
            (Q x1 t1 D1)))))
    else
    (if (D a 0) = 1 then
      (chk ((t.1 a).1 = 5)
        (wp S 49 0 [some (qr a), some (qi (l1 - 48))] [] t D (fun x2 t2 D2 =>
            (chk (x2 = 0 ∨ x2 = 1)
              (Q x2 t2 D2)))))
      else
      (if (D a 0) = 2 then
        (chk ((t.1 a).1 = 5)
          (wp S 50 0 [some (qr a), some (qi l1), some (qi 0), some (qi 3), some (qi 3), none] [] t D (fun x3 t3 D3 =>
              (chk (x3 = 0 ∨ x3 = 1)
                (Q x3 t3 D3)))))
        else
        (if (D a 0) = 3 then
          (chk ((t.1 a).1 = 5)
            (wp S 50 0 [some (qr a), some (qi l1), some (qi 0), some (qi 5), some (qi 0), none] [] t D (fun x4 t4 D4 =>
                (chk (x4 = 0 ∨ x4 = 1)
                  (Q x4 t4 D4)))))
          else
          (if (D a 0) = 4 then
            (chk ((t.1 a).1 = 5)
              (wp S 50 0 [some (qr a), some (qi l1), some (qi 0), some (qi 3), some (qi 0), none] [] t D (fun x5 t5 D5 =>
                  (chk (x5 = 0 ∨ x5 = 1)
                    (Q x5 t5 D5)))))
            else
            (if (D a 0) = 5 then
              (chk ((t.1 a).1 = 5)
                (wp S 51 0 [some (qr a), some (qi l1)] [] t D (fun x6 t6 D6 =>
                    (chk (x6 = 0 ∨ x6 = 1)
                      (Q x6 t6 D6)))))
              else
              (if (D a 0) = 6 then
                (chk ((t.1 a).1 = 5)
                  (chk ((t.1 a).1 = 5)
                    (wp S 50 0 [some (qr a), some (qi l1), some (qi 0), some (qi 9), some (qi 7), none] [] t (up D a 6 (l1 - 48)) (fun x7 t7 D7 =>
                        (chk (x7 = 0 ∨ x7 = 1)
                        (Q x7 t7 D7))))))
                else
                (if (D a 0) = 7 then
                  (chk ((t.1 a).1 = 5)
                    (chk ((t.1 a).1 = 5)
                      (wp S 50 0 [some (qr a), some (qi l1), some (qi (D a 6)), some (qi 9), some (qi 8), none] [] t D (fun x8 t8 D8 =>
                        (chk (x8 = 0 ∨ x8 = 1)
                        (Q x8 t8 D8))))))
                  else
                  (if (D a 0) = 8 then
                    (chk ((t.1 a).1 = 5)
                      (wp S 50 0 [some (qr a), some (qi l1), some (qi 0), some (qi 4), some (qi 9), none] [] t D (fun x9 t9 D9 =>
                        (chk (x9 = 0 ∨ x9 = 1)
                        (Q x9 t9 D9)))))
                    else
                    (chk ((t.1 a).1 = 5)
                      (wp S 50 0 [some (qr a), some (qi l1), some (qi 0), some (qi 9), some (qi 5), none] [] t D (fun x10 t10 D10 =>
                        (chk (x10 = 0 ∨ x10 = 1)
                        (Q x10 t10 D10)))))))))))))))) : wp S 46 0 [some (qr a), some (qi l1)] [] t D Q := vc_ok (cuts := []) 600 0 _ _ _ _ h
/-! 47 X5_takesOp -/
set_option maxRecDepth 100000 in
theorem b47_0 {S : (Nat → Int32) × Nat} {t : qT} {D : qD} {Q : Int → qT → qD → Prop} {l1 : Int} {a : Nat} (h :
chk (qR l1)
(if l1 = 59 then
  (chk ((t.1 a).1 = 5)
    (Q 1 t (up D a 0 5)))
  else
  (chk ((t.1 a).1 = 5)
    (chk ((t.1 a).1 = 5)
      (chk ((t.1 a).1 = 5)
        (chk (qR ((up D a 2 ((D a 2) + 1)) a 2))
          (if 8 < ((up D a 2 ((D a 2) + 1)) a 2) then
            (Q 0 t (up D a 2 ((D a 2) + 1)))
            else
            (chk ((t.1 a).1 = 5)
              (wp S 48 0 [some (qr a), some (qi l1)] [] t (up D a 2 ((D a 2) + 1)) (fun x1 t1 D1 =>
                  (chk (qR x1)
                    (if x1 = 0 then
                      (Q 0 t1 D1)
                      else
                      (Q 1 t1 D1))))))))))))) : wp S 47 0 [some (qr a), some (qi l1)] [] t D Q := vc_ok (cuts := []) 600 0 _ _ _ _ h
/-! 48 X5_takesOpLetter -/
set_option maxRecDepth 100000 in
theorem b48_0 {S : (Nat → Int32) × Nat} {t : qT} {D : qD} {Q : Int → qT → qD → Prop} {l1 : Int} {a : Nat} (h :
chk (qR l1)
(if l1 = 43 then
  (chk ((t.1 a).1 = 5)
    (Q 1 t (up D a 0 1)))
  else
  (if l1 = 98 then
    (chk ((t.1 a).1 = 5)
      (chk ((t.1 a).1 = 5)
        (chk ((t.1 a).1 = 5)
          (chk (qR ((up D a 4 ((D a 4) - 1)) a 4))
            (if ((up D a 4 ((D a 4) - 1)) a 4) < 0 then
              (Q 0 t (up D a 4 ((D a 4) - 1)))
              else
              (Q 1 t (up D a 4 ((D a 4) - 1))))))))
    else
    (if l1 = 109 then
      (chk ((t.1 a).1 = 5)
        (chk ((t.1 a).1 = 5)
          (chk ((t.1 a).1 = 5)
            (chk (qR ((up D a 4 ((D a 4) + 1)) a 4))
              (if 3 < ((up D a 4 ((D a 4) + 1)) a 4) then
                (Q 0 t (up D a 4 ((D a 4) + 1)))
                else
                (Q 1 t (up D a 4 ((D a 4) + 1))))))))
      else
      (if l1 = 115 then
        (chk ((t.1 a).1 = 5)
          (Q 1 t (up D a 0 2)))
        else
        (if l1 = 117 then
          (chk ((t.1 a).1 = 5)
            (Q 1 t (up D a 0 4)))
          else
          (Q 0 t D))))))) : wp S 48 0 [some (qr a), some (qi l1)] [] t D Q := vc_ok (cuts := []) 600 0 _ _ _ _ h
/-! 49 X5_takesFarther -/
set_option maxRecDepth 100000 in
theorem b49_0 {S : (Nat → Int32) × Nat} {t : qT} {D : qD} {Q : Int → qT → qD → Prop} {l1 : Int} {a : Nat} (h :
chk (qR l1)
(if l1 < 1 then
  (Q 0 t D)
  else
  (chk ((t.1 a).1 = 5)
    (chk (qR ((D a 3) + l1))
      (if ((D a 3) + l1) < 10 then
        (chk ((t.1 a).1 = 5)
          (chk ((t.1 a).1 = 5)
            (chk ((t.1 a).1 = 5)
              (Q 1 t (up (up D a 3 ((D a 3) + l1)) a 0 0)))))
        else
        (Q 0 t D)))))) : wp S 49 0 [some (qr a), some (qi l1)] [] t D Q := vc_ok (cuts := []) 600 0 _ _ _ _ h
/-! 50 X5_takesDigit -/
set_option maxRecDepth 100000 in
theorem b50_0 {S : (Nat → Int32) × Nat} {t : qT} {D : qD} {Q : Int → qT → qD → Prop} {l1 l2 l3 l4 : Int} {a : Nat} (h :
chk ((t.1 a).1 = 5)
(chk (qR (l1 - 48))
  (chk (qR l2)
    (if (l1 - 48) < l2 then
      (Q 0 t (up D a 0 l4))
      else
      (chk (qR (l1 - 48))
        (chk (qR l3)
          (if l3 < (l1 - 48) then
            (Q 0 t (up D a 0 l4))
            else
            (Q 1 t (up D a 0 l4))))))))) : wp S 50 0 [some (qr a), some (qi l1), some (qi l2), some (qi l3), some (qi l4), none] [] t D Q := vc_ok (cuts := []) 600 0 _ _ _ _ h
/-! 51 X5_takesBetweenPads -/
set_option maxRecDepth 100000 in
theorem b51_0 {S : (Nat → Int32) × Nat} {t : qT} {D : qD} {Q : Int → qT → qD → Prop} {l1 : Int} {a : Nat} (h :
chk (qR l1)
(if l1 = 47 then
  (chk ((t.1 a).1 = 5)
    (wp S 52 0 [some (qr a)] [] t D (fun _ t1 D1 =>
        (chk ((t1.1 a).1 = 5)
          (chk (qR (D1 a 1))
            (if 3 < (D1 a 1) then
              (Q 0 t1 D1)
              else
              (Q 1 t1 D1)))))))
  else
  (chk ((t.1 a).1 = 5)
    (chk ((t.1 a).1 = 5)
      (chk ((t.1 a).1 = 5)
        (chk ((t.1 a).1 = 5)
          (chk (qR ((up (up D a 5 ((D a 5) + 1)) a 0 6) a 5))
            (if 3 < ((up (up D a 5 ((D a 5) + 1)) a 0 6) a 5) then
              (Q 0 t (up (up D a 5 ((D a 5) + 1)) a 0 6))
              else
              (wp S 104 0 [some (qi l1)] [] t (up (up D a 5 ((D a 5) + 1)) a 0 6) (fun x2 t2 D2 =>
                  (chk (qR x2)
                    (if x2 = (-1) then
                      (Q 0 t2 D2)
                      else
                      (Q 1 t2 D2))))))))))))) : wp S 51 0 [some (qr a), some (qi l1)] [] t D Q := vc_ok (cuts := []) 600 0 _ _ _ _ h
/-! 52 X5_beginFunction -/
set_option maxRecDepth 100000 in
theorem b52_0 {S : (Nat → Int32) × Nat} {t : qT} {D : qD} {Q : Int → qT → qD → Prop} {a : Nat} (h :
chk ((t.1 a).1 = 5)
(chk ((t.1 a).1 = 5)
  (chk ((t.1 a).1 = 5)
    (chk ((t.1 a).1 = 5)
      (chk ((t.1 a).1 = 5)
        (chk ((t.1 a).1 = 5)
          (chk ((t.1 a).1 = 5)
            (Q 0 t (up (up (up (up (up (up D a 1 ((D a 1) + 1)) a 0 0) a 2 0) a 3 0) a 4 0) a 5 0))))))))) : wp S 52 0 [some (qr a)] [] t D Q := vc_ok (cuts := []) 600 0 _ _ _ _ h
/-! 53 X6_init -/
set_option maxRecDepth 100000 in
theorem b53_0 {S : (Nat → Int32) × Nat} {t : qT} {D : qD} {Q : Int → qT → qD → Prop} {a l2 : Nat} (h :
chk ((t.1 a).1 ≠ 8 ∧ 0 ≤ 8)
(chk (((nwT t.1 t.2.2.1 (10, 4)) a).1 = 6)
  (chk (qsP a 2 = none)
    (wp S 53 11 [some (qr a), some (qs 1), some (qr l2)] [] ((nwT t.1 t.2.2.1 (10, 4)), (upP (nwP t.2.1 t.2.2.1) a 2 t.2.2.1), ((t.2.2.1 + 1), (t.2.2.2 + 4))) (upr D t.2.2.1 (fun _ => 0)) Q)))) : wp S 53 0 [some (qr a), some (qs 1), some (qr l2)] [] t D Q := vc_ok (cuts := [11, 19, 24, 29, 34, 39, 44]) 600 0 _ _ _ _ h
set_option maxRecDepth 100000 in
theorem b53_11 {S : (Nat → Int32) × Nat} {t : qT} {D : qD} {Q : Int → qT → qD → Prop} {a l2 : Nat} (h :
chk (((nwT t.1 t.2.2.1 (10, 12)) a).1 = 6)
(chk (qsP a 3 = none)
  (wp S 53 19 [some (qr a), some (qs 1), some (qr l2)] [] ((nwT t.1 t.2.2.1 (10, 12)), (upP (nwP t.2.1 t.2.2.1) a 3 t.2.2.1), ((t.2.2.1 + 1), (t.2.2.2 + 12))) (upr D t.2.2.1 (fun _ => 0)) Q))) : wp S 53 11 [some (qr a), some (qs 1), some (qr l2)] [] t D Q := vc_ok (cuts := [11, 19, 24, 29, 34, 39, 44]) 600 11 _ _ _ _ h
set_option maxRecDepth 100000 in
theorem b53_19 {S : (Nat → Int32) × Nat} {t : qT} {D : qD} {Q : Int → qT → qD → Prop} {a l2 : Nat} (h :
chk ((t.1 a).1 = 6)
(wp S 53 24 [some (qr a), some (qs 1), some (qr l2)] [] t (up D a 4 0) Q)) : wp S 53 19 [some (qr a), some (qs 1), some (qr l2)] [] t D Q := vc_ok (cuts := [11, 19, 24, 29, 34, 39, 44]) 600 19 _ _ _ _ h
set_option maxRecDepth 100000 in
theorem b53_24 {S : (Nat → Int32) × Nat} {t : qT} {D : qD} {Q : Int → qT → qD → Prop} {a l2 : Nat} (h :
chk ((t.1 a).1 = 6)
(wp S 53 29 [some (qr a), some (qs 1), some (qr l2)] [] t (up D a 5 0) Q)) : wp S 53 24 [some (qr a), some (qs 1), some (qr l2)] [] t D Q := vc_ok (cuts := [11, 19, 24, 29, 34, 39, 44]) 600 24 _ _ _ _ h
set_option maxRecDepth 100000 in
theorem b53_29 {S : (Nat → Int32) × Nat} {t : qT} {D : qD} {Q : Int → qT → qD → Prop} {a l2 : Nat} (h :
chk ((t.1 a).1 = 6)
(wp S 53 34 [some (qr a), some (qs 1), some (qr l2)] [] t (up D a 6 0) Q)) : wp S 53 29 [some (qr a), some (qs 1), some (qr l2)] [] t D Q := vc_ok (cuts := [11, 19, 24, 29, 34, 39, 44]) 600 29 _ _ _ _ h
set_option maxRecDepth 100000 in
theorem b53_34 {S : (Nat → Int32) × Nat} {t : qT} {D : qD} {Q : Int → qT → qD → Prop} {a l2 : Nat} (h :
chk ((t.1 a).1 = 6)
(wp S 53 39 [some (qr a), some (qs 1), some (qr l2)] [] t (up D a 7 0) Q)) : wp S 53 34 [some (qr a), some (qs 1), some (qr l2)] [] t D Q := vc_ok (cuts := [11, 19, 24, 29, 34, 39, 44]) 600 34 _ _ _ _ h
set_option maxRecDepth 100000 in
theorem b53_39 {S : (Nat → Int32) × Nat} {t : qT} {D : qD} {Q : Int → qT → qD → Prop} {a l2 : Nat} (h :
chk ((t.1 a).1 = 6)
(chk (qsP a 0 = none ∧ 1 ≠ 0)
  (wp S 53 44 [some (qr a), some (qs 1), some (qr l2)] [] (t.1, (upP t.2.1 a 0 1), t.2.2) D Q))) : wp S 53 39 [some (qr a), some (qs 1), some (qr l2)] [] t D Q := vc_ok (cuts := [11, 19, 24, 29, 34, 39, 44]) 600 39 _ _ _ _ h
set_option maxRecDepth 100000 in
theorem b53_44 {S : (Nat → Int32) × Nat} {t : qT} {D : qD} {Q : Int → qT → qD → Prop} {a l2 : Nat} (h :
chk ((t.1 a).1 = 6)
(chk (qsP a 1 = none)
  (Q 0 (t.1, (upP t.2.1 a 1 l2), t.2.2) D))) : wp S 53 44 [some (qr a), some (qs 1), some (qr l2)] [] t D Q := vc_ok (cuts := [11, 19, 24, 29, 34, 39, 44]) 600 44 _ _ _ _ h
/-! 54 X6_writeText -/
set_option maxRecDepth 100000 in
theorem b54_0 {S : (Nat → Int32) × Nat} {t : qT} {D : qD} {Q : Int → qT → qD → Prop} {a : Nat} (h :
wp S 54 2 [some (qr a), some (qi 0)] [] t D Q) : wp S 54 0 [some (qr a), none] [] t D Q := vc_ok (cuts := [2]) 600 0 _ _ _ _ h
set_option maxRecDepth 100000 in
theorem b54_2 {S : (Nat → Int32) × Nat} {t : qT} {D : qD} {Q : Int → qT → qD → Prop} {l1 : Int} {a : Nat} (h :
chk (qR l1)
(if l1 < 3 then
  (chk ((t.1 a).1 = 6)
    (chk ((t.1 a).1 = 6)
      (chk ((t.1 (t.2.1 a 0)).1 = 4)
        (chk (qR (D a 5))
          (chk (qR (D (t.2.1 a 0) 1))
            (if (D a 5) < (D (t.2.1 a 0) 1) then
              (chk ((t.1 a).1 = 6)
                (wp S 55 0 [some (qr a), some (qi l1), none] [] t D (fun _ t1 D1 =>
                    (chk ((t1.1 a).1 = 6)
                      (chk ((t1.1 a).1 = 6)
                        (chk ((t1.1 a).1 = 6)
                        (wp S 61 0 [some (qr a), some (qi l1), none, none] [] t1 (up D1 a 5 ((D1 a 5) + 1)) (fun _ t2 D2 =>
                        (chk ((t2.1 a).1 = 6)
                        (chk ((t2.1 a).1 = 6)
                        (chk ((t2.1 a).1 = 6)
                        (chk ((t2.1 (t2.2.1 a 1)).1 = 0)
                        (chk ((t2.1 (t2.2.1 a 1)).1 = 0)
                        (wp S 54 2 [some (qr a), some (qi (l1 + 1))] [] t2 (up (up D2 a 5 ((D2 a 5) + 1)) (t2.2.1 a 1) 0 (((up D2 a 5 ((D2 a 5) + 1)) (t2.2.1 a 1) 0) + 1)) Q))))))))))))))
              else
              (Q 0 t D)))))))
  else
  (Q 0 t D))) : wp S 54 2 [some (qr a), some (qi l1)] [] t D Q := vc_ok (cuts := [2]) 600 2 _ _ _ _ h
/-! 55 X6_writeProgram -/
set_option maxRecDepth 100000 in
theorem b55_0 {S : (Nat → Int32) × Nat} {t : qT} {D : qD} {Q : Int → qT → qD → Prop} {l1 : Int} {a : Nat} (h :
chk ((t.1 a).1 = 6)
(wp S 187 0 [some (qr (t.2.1 a 2)), some (qi (-1)), none, none] [] t D (fun _ t1 D1 =>
    (chk ((t1.1 a).1 = 6)
      (chk ((t1.1 a).1 = 6)
        (chk ((t1.1 a).1 = 6)
          (wp S 55 25 [some (qr a), some (qi l1), some (qi 0)] [] t1 (up (up (up D1 a 4 0) a 6 0) a 7 0) Q))))))) : wp S 55 0 [some (qr a), some (qi l1), none] [] t D Q := vc_ok (cuts := [25]) 600 0 _ _ _ _ h
set_option maxRecDepth 100000 in
theorem b55_25 {S : (Nat → Int32) × Nat} {t : qT} {D : qD} {Q : Int → qT → qD → Prop} {l1 l2 : Int} {a : Nat} (h :
chk (qR l2)
(if l2 < 8 then
  (chk ((t.1 a).1 = 6)
    (chk ((t.1 a).1 = 6)
      (chk ((t.1 (t.2.1 a 0)).1 = 4)
        (wp S 41 0 [some (qr (t.2.1 a 0)), some (qi (D a 5))] [] t D (fun x1 t1 D1 =>
            (chk (qR x1)
              (if x1 = 59 then
                (chk ((t1.1 a).1 = 6)
                  (wp S 60 0 [some (qr a), some (qi l1), some (qi 10), none, none] [] t1 D1 (fun _ t2 D2 =>
                      (Q 0 t2 D2))))
                else
                (chk ((t1.1 a).1 = 6)
                  (wp S 56 0 [some (qr a), some (qi l1), none, none] [] t1 D1 (fun _ t3 D3 =>
                      (wp S 55 25 [some (qr a), some (qi l1), some (qi (l2 + 1))] [] t3 D3 Q)))))))))))
  else
  (chk ((t.1 a).1 = 6)
    (wp S 60 0 [some (qr a), some (qi l1), some (qi 10), none, none] [] t D (fun _ t4 D4 =>
        (Q 0 t4 D4)))))) : wp S 55 25 [some (qr a), some (qi l1), some (qi l2)] [] t D Q := vc_ok (cuts := [25]) 600 25 _ _ _ _ h
/-! 56 X6_writeOp -/
set_option maxRecDepth 100000 in
theorem b56_0 {S : (Nat → Int32) × Nat} {t : qT} {D : qD} {Q : Int → qT → qD → Prop} {l1 : Int} {a : Nat} (h :
chk ((t.1 a).1 = 6)
(chk ((t.1 a).1 = 6)
  (chk ((t.1 (t.2.1 a 0)).1 = 4)
    (wp S 41 0 [some (qr (t.2.1 a 0)), some (qi (D a 5))] [] t D (fun x1 t1 D1 =>
        (chk ((t1.1 a).1 = 6)
          (chk ((t1.1 a).1 = 6)
            (chk ((t1.1 (t1.2.1 a 0)).1 = 4)
              (wp S 42 0 [some (qr (t1.2.1 a 0)), some (qi ((D1 a 5) + 1))] [] t1 D1 (fun x2 t2 D2 =>
                  (chk (qR x1)
                    (if x1 = 43 then
                      (chk ((t2.1 a).1 = 6)
                        (chk ((t2.1 a).1 = 6)
                        (wp S 60 0 [some (qr a), some (qi l1), some (qi ((D2 a 6) + x2)), none, none] [] t2 D2 (fun _ t3 D3 =>
                        (chk ((t3.1 a).1 = 6)
                        (chk ((t3.1 a).1 = 6)
                        (Q 0 t3 (up D3 a 5 ((D3 a 5) + 2)))))))))
                      else
                      (chk ((t2.1 a).1 = 6)
                        (chk ((t2.1 a).1 = 6)
                        (chk (qR x1)
                        (if x1 = 115 then
                        (chk ((t2.1 a).1 = 6)
                        (chk ((t2.1 a).1 = 6)
                        (chk ((t2.1 (t2.2.1 a 0)).1 = 4)
                        (wp S 42 0 [some (qr (t2.2.1 a 0)), some (qi (((up D2 a 7 (D2 a 6)) a 5) + 2))] [] t2 (up D2 a 7 (D2 a 6)) (fun x4 t4 D4 =>
                        (chk ((t4.1 a).1 = 6)
                        (wp S 57 0 [some (qr a), some (qi l1), some (qi x2), some (qi x4)] [] t4 D4 (fun _ t5 D5 =>
                        (chk ((t5.1 a).1 = 6)
                        (chk ((t5.1 a).1 = 6)
                        (Q 0 t5 (up D5 a 5 ((D5 a 5) + 3)))))))))))))
                        else
                        (chk (qR x1)
                        (if x1 = 117 then
                        (chk ((t2.1 a).1 = 6)
                        (wp S 58 0 [some (qr a), some (qi x2)] [] t2 (up D2 a 7 (D2 a 6)) (fun _ t6 D6 =>
                        (chk ((t6.1 a).1 = 6)
                        (chk ((t6.1 a).1 = 6)
                        (Q 0 t6 (up D6 a 5 ((D6 a 5) + 2))))))))
                        else
                        (chk ((t2.1 a).1 = 6)
                        (wp S 59 0 [some (qr a), some (qi x1)] [] t2 (up D2 a 7 (D2 a 6)) (fun _ t7 D7 =>
                        (chk ((t7.1 a).1 = 6)
                        (chk ((t7.1 a).1 = 6)
                        (Q 0 t7 (up D7 a 5 ((D7 a 5) + 1)))))))))))))))))))))))))) : wp S 56 0 [some (qr a), some (qi l1), none, none] [] t D Q := vc_ok (cuts := []) 600 0 _ _ _ _ h
/-! 57 X6_save -/
set_option maxRecDepth 100000 in
theorem b57_0 {S : (Nat → Int32) × Nat} {t : qT} {D : qD} {Q : Int → qT → qD → Prop} {l1 l2 l3 : Int} {a : Nat} (h :
wp S 102 0 [some (qi l2), some (qi 4)] [] t D (fun x1 t1 D1 =>
  (chk (qR x1)
    (if x1 = 0 then
      (Q 0 t1 D1)
      else
      (wp S 102 0 [some (qi l3), some (qi 6)] [] t1 D1 (fun x2 t2 D2 =>
          (chk (qR x2)
            (if x2 = 0 then
              (Q 0 t2 D2)
              else
              (chk ((t2.1 a).1 = 6)
                (chk ((t2.1 (t2.2.1 a 2)).1 = 10)
                  (chk (0 ≤ l2 ∧ l2 < (t2.1 (t2.2.1 a 2)).2)
                    (chk ((t2.1 a).1 = 6)
                      (chk ((t2.1 a).1 = 6)
                        (chk ((t2.1 (t2.2.1 a 1)).1 = 0)
                        (wp S 11 0 [some (qr (t2.2.1 a 1)), some (qi l1), some (qi ((up D2 (t2.2.1 a 2) l2 l3) a 6)), some (qi l2), some (qi l3), none] [] t2 (up D2 (t2.2.1 a 2) l2 l3) (fun _ t3 D3 =>
                        (Q 0 t3 D3))))))))))))))))) : wp S 57 0 [some (qr a), some (qi l1), some (qi l2), some (qi l3)] [] t D Q := vc_ok (cuts := []) 600 0 _ _ _ _ h
/-! 58 X6_free -/
set_option maxRecDepth 100000 in
theorem b58_0 {S : (Nat → Int32) × Nat} {t : qT} {D : qD} {Q : Int → qT → qD → Prop} {l1 : Int} {a : Nat} (h :
wp S 102 0 [some (qi l1), some (qi 4)] [] t D (fun x1 t1 D1 =>
  (chk (qR x1)
    (if x1 = 0 then
      (Q 0 t1 D1)
      else
      (chk ((t1.1 a).1 = 6)
        (chk ((t1.1 (t1.2.1 a 2)).1 = 10)
          (chk (0 ≤ l1 ∧ l1 < (t1.1 (t1.2.1 a 2)).2)
            (Q 0 t1 (up D1 (t1.2.1 a 2) l1 (-1)))))))))) : wp S 58 0 [some (qr a), some (qi l1)] [] t D Q := vc_ok (cuts := []) 600 0 _ _ _ _ h
/-! 59 X6_rememberOrGoBack -/
set_option maxRecDepth 100000 in
theorem b59_0 {S : (Nat → Int32) × Nat} {t : qT} {D : qD} {Q : Int → qT → qD → Prop} {l1 : Int} {a : Nat} (h :
chk (qR l1)
(if l1 = 109 then
  (chk ((t.1 a).1 = 6)
    (chk (qR (D a 4))
      (if (D a 4) < 3 then
        (chk ((t.1 a).1 = 6)
          (chk ((t.1 a).1 = 6)
            (chk ((t.1 a).1 = 6)
              (chk ((t.1 (t.2.1 a 3)).1 = 10)
                (chk ((t.1 (t.2.1 a 2)).1 = 10)
                  (chk ((0 : Int) ≤ 0 ∧ (0 : Int) ≤ ((D a 4) * 4) ∧ (0 : Int) ≤ 4 ∧ (0 + 4) ≤ (t.1 (t.2.1 a 2)).2 ∧ (((D a 4) * 4) + 4) ≤ (t.1 (t.2.1 a 3)).2)
                    (chk ((t.1 a).1 = 6)
                      (chk ((t.1 a).1 = 6)
                        (Q 0 t (up (upr D (t.2.1 a 3) (q_cp (D (t.2.1 a 2)) (D (t.2.1 a 3)) 0 ((D a 4) * 4) 4)) a 4 (((upr D (t.2.1 a 3) (q_cp (D (t.2.1 a 2)) (D (t.2.1 a 3)) 0 ((D a 4) * 4) 4)) a 4) + 1)))))))))))
        else
        (chk (qR l1)
          (if l1 = 98 then
            (chk ((t.1 a).1 = 6)
              (chk (qR (D a 4))
                (if 0 < (D a 4) then
                  (chk ((t.1 a).1 = 6)
                    (chk ((t.1 a).1 = 6)
                      (chk ((t.1 a).1 = 6)
                        (chk ((t.1 a).1 = 6)
                        (chk ((t.1 a).1 = 6)
                        (chk ((t.1 (t.2.1 a 2)).1 = 10)
                        (chk ((t.1 (t.2.1 a 3)).1 = 10)
                        (chk ((0 : Int) ≤ (((up D a 4 ((D a 4) - 1)) a 4) * 4) ∧ (0 : Int) ≤ 0 ∧ (0 : Int) ≤ 4 ∧ ((((up D a 4 ((D a 4) - 1)) a 4) * 4) + 4) ≤ (t.1 (t.2.1 a 3)).2 ∧ (0 + 4) ≤ (t.1 (t.2.1 a 2)).2)
                        (Q 0 t (upr (up D a 4 ((D a 4) - 1)) (t.2.1 a 2) (q_cp ((up D a 4 ((D a 4) - 1)) (t.2.1 a 3)) ((up D a 4 ((D a 4) - 1)) (t.2.1 a 2)) (((up D a 4 ((D a 4) - 1)) a 4) * 4) 0 4)))))))))))
                  else
                  (Q 0 t D))))
            else
            (Q 0 t D))))))
  else
  (chk (qR l1)
    (if l1 = 98 then
      (chk ((t.1 a).1 = 6)
        (chk (qR (D a 4))
          (if 0 < (D a 4) then
            (chk ((t.1 a).1 = 6)
              (chk ((t.1 a).1 = 6)
                (chk ((t.1 a).1 = 6)
                  (chk ((t.1 a).1 = 6)
                    (chk ((t.1 a).1 = 6)
                      (chk ((t.1 (t.2.1 a 2)).1 = 10)
                        (chk ((t.1 (t.2.1 a 3)).1 = 10)
                        (chk ((0 : Int) ≤ (((up D a 4 ((D a 4) - 1)) a 4) * 4) ∧ (0 : Int) ≤ 0 ∧ (0 : Int) ≤ 4 ∧ ((((up D a 4 ((D a 4) - 1)) a 4) * 4) + 4) ≤ (t.1 (t.2.1 a 3)).2 ∧ (0 + 4) ≤ (t.1 (t.2.1 a 2)).2)
                        (Q 0 t (upr (up D a 4 ((D a 4) - 1)) (t.2.1 a 2) (q_cp ((up D a 4 ((D a 4) - 1)) (t.2.1 a 3)) ((up D a 4 ((D a 4) - 1)) (t.2.1 a 2)) (((up D a 4 ((D a 4) - 1)) a 4) * 4) 0 4)))))))))))
            else
            (Q 0 t D))))
      else
      (Q 0 t D))))) : wp S 59 0 [some (qr a), some (qi l1)] [] t D Q := vc_ok (cuts := []) 600 0 _ _ _ _ h
/-! 60 X6_writeRowsTo -/
set_option maxRecDepth 100000 in
theorem b60_0 {S : (Nat → Int32) × Nat} {t : qT} {D : qD} {Q : Int → qT → qD → Prop} {l1 l2 : Int} {a : Nat} (h :
chk ((t.1 a).1 = 6)
(wp S 60 5 [some (qr a), some (qi l1), some (qi l2), some (qi (D a 6)), none] [] t D Q)) : wp S 60 0 [some (qr a), some (qi l1), some (qi l2), none, none] [] t D Q := vc_ok (cuts := [5, 19]) 600 0 _ _ _ _ h
set_option maxRecDepth 100000 in
theorem b60_5 {S : (Nat → Int32) × Nat} {t : qT} {D : qD} {Q : Int → qT → qD → Prop} {l1 l2 l3 : Int} {a : Nat} {o4 : Option qV} (h :
chk (qR l3)
(chk (qR l2)
  (if l3 < l2 then
    (chk (qR l3)
      (if l3 < 10 then
        (wp S 60 19 [some (qr a), some (qi l1), some (qi l2), some (qi l3), some (qi 0)] [] t D Q)
        else
        (chk ((t.1 a).1 = 6)
          (Q 0 t (up D a 6 l2)))))
    else
    (chk ((t.1 a).1 = 6)
      (Q 0 t (up D a 6 l2)))))) : wp S 60 5 [some (qr a), some (qi l1), some (qi l2), some (qi l3), o4] [] t D Q := vc_ok (cuts := [5, 19]) 600 5 _ _ _ _ h
set_option maxRecDepth 100000 in
theorem b60_19 {S : (Nat → Int32) × Nat} {t : qT} {D : qD} {Q : Int → qT → qD → Prop} {l1 l2 l3 l4 : Int} {a : Nat} (h :
chk (qR l4)
(if l4 < 4 then
  (chk ((t.1 a).1 = 6)
    (chk ((t.1 a).1 = 6)
      (chk ((t.1 (t.2.1 a 2)).1 = 10)
        (chk (0 ≤ l4 ∧ l4 < (t.1 (t.2.1 a 2)).2)
          (chk ((t.1 (t.2.1 a 1)).1 = 0)
            (wp S 2 0 [some (qr (t.2.1 a 1)), some (qi l1), some (qi l3), some (qi l4), some (qi (D (t.2.1 a 2) l4))] [] t D (fun _ t1 D1 =>
                (wp S 60 19 [some (qr a), some (qi l1), some (qi l2), some (qi l3), some (qi (l4 + 1))] [] t1 D1 Q))))))))
  else
  (chk ((t.1 a).1 = 6)
    (chk ((t.1 a).1 = 6)
      (chk ((t.1 (t.2.1 a 1)).1 = 0)
        (wp S 2 0 [some (qr (t.2.1 a 1)), some (qi l1), some (qi l3), some (qi 4), some (qi (D a 4))] [] t D (fun _ t2 D2 =>
            (chk ((t2.1 a).1 = 6)
              (chk ((t2.1 a).1 = 6)
                (chk ((t2.1 (t2.2.1 a 1)).1 = 0)
                  (wp S 2 0 [some (qr (t2.2.1 a 1)), some (qi l1), some (qi l3), some (qi 5), some (qi (D2 a 7))] [] t2 D2 (fun _ t3 D3 =>
                      (wp S 60 5 [some (qr a), some (qi l1), some (qi l2), some (qi (l3 + 1)), some (qi l4)] [] t3 D3 Q))))))))))))) : wp S 60 19 [some (qr a), some (qi l1), some (qi l2), some (qi l3), some (qi l4)] [] t D Q := vc_ok (cuts := [5, 19]) 600 19 _ _ _ _ h
/-! 61 X6_writePads -/
set_option maxRecDepth 100000 in
theorem b61_0 {S : (Nat → Int32) × Nat} {t : qT} {D : qD} {Q : Int → qT → qD → Prop} {l1 : Int} {a : Nat} (h :
wp S 61 2 [some (qr a), some (qi l1), some (qi 0), none] [] t D Q) : wp S 61 0 [some (qr a), some (qi l1), none, none] [] t D Q := vc_ok (cuts := [2, 51]) 600 0 _ _ _ _ h
set_option maxRecDepth 100000 in
theorem b61_2 {S : (Nat → Int32) × Nat} {t : qT} {D : qD} {Q : Int → qT → qD → Prop} {l1 l2 : Int} {a : Nat} {o3 : Option qV} (h :
chk (qR l2)
(if l2 < 3 then
  (chk ((t.1 a).1 = 6)
    (chk ((t.1 a).1 = 6)
      (chk ((t.1 (t.2.1 a 0)).1 = 4)
        (wp S 41 0 [some (qr (t.2.1 a 0)), some (qi (D a 5))] [] t D (fun x1 t1 D1 =>
            (wp S 104 0 [some (qi x1)] [] t1 D1 (fun x2 t2 D2 =>
                (chk (qR x2)
                  (if x2 = (-1) then
                    (Q 0 t2 D2)
                    else
                    (chk ((t2.1 a).1 = 6)
                      (chk ((t2.1 a).1 = 6)
                        (chk ((t2.1 a).1 = 6)
                        (chk ((t2.1 (t2.2.1 a 0)).1 = 4)
                        (wp S 41 0 [some (qr (t2.2.1 a 0)), some (qi (D2 a 5))] [] t2 D2 (fun x3 t3 D3 =>
                        (wp S 104 0 [some (qi x3)] [] t3 D3 (fun x4 t4 D4 =>
                        (chk ((t4.1 (t2.2.1 a 1)).1 = 0)
                        (wp S 6 0 [some (qr (t2.2.1 a 1)), some (qi l1), some (qi l2), some (qi 0), some (qi x4)] [] t4 D4 (fun _ t5 D5 =>
                        (wp S 61 51 [some (qr a), some (qi l1), some (qi l2), some (qi 1)] [] t5 D5 Q)))))))))))))))))))))
  else
  (Q 0 t D))) : wp S 61 2 [some (qr a), some (qi l1), some (qi l2), o3] [] t D Q := vc_ok (cuts := [2, 51]) 600 2 _ _ _ _ h
set_option maxRecDepth 100000 in
theorem b61_51 {S : (Nat → Int32) × Nat} {t : qT} {D : qD} {Q : Int → qT → qD → Prop} {l1 l2 l3 : Int} {a : Nat} (h :
chk (qR l3)
(if l3 < 5 then
  (chk ((t.1 a).1 = 6)
    (chk ((t.1 a).1 = 6)
      (chk ((t.1 a).1 = 6)
        (chk ((t.1 (t.2.1 a 0)).1 = 4)
          (wp S 42 0 [some (qr (t.2.1 a 0)), some (qi ((D a 5) + l3))] [] t D (fun x1 t1 D1 =>
              (chk ((t1.1 (t.2.1 a 1)).1 = 0)
                (wp S 6 0 [some (qr (t.2.1 a 1)), some (qi l1), some (qi l2), some (qi l3), some (qi x1)] [] t1 D1 (fun _ t2 D2 =>
                    (wp S 61 51 [some (qr a), some (qi l1), some (qi l2), some (qi (l3 + 1))] [] t2 D2 Q))))))))))
  else
  (chk ((t.1 a).1 = 6)
    (chk ((t.1 (t.2.1 a 1)).1 = 0)
      (wp S 4 0 [some (qr (t.2.1 a 1)), some (qi l1), some (qi (l2 + 1))] [] t D (fun _ t3 D3 =>
          (chk ((t3.1 a).1 = 6)
            (chk ((t3.1 a).1 = 6)
              (wp S 61 2 [some (qr a), some (qi l1), some (qi (l2 + 1)), some (qi l3)] [] t3 (up D3 a 5 ((D3 a 5) + 5)) Q))))))))) : wp S 61 51 [some (qr a), some (qi l1), some (qi l2), some (qi l3)] [] t D Q := vc_ok (cuts := [2, 51]) 600 51 _ _ _ _ h
/-! 63 X7_note -/
set_option maxRecDepth 100000 in
theorem b63_0 {S : (Nat → Int32) × Nat} {t : qT} {D : qD} {Q : Int → qT → qD → Prop} {l1 l2 l3 : Int} (h :
chk (qR (D 7 3))
(if (D 7 3) < 6 then
  (chk (0 ≤ (D 7 3) ∧ (D 7 3) < 6)
    (chk (0 ≤ ((up D 8 (D 7 3) l1) 7 3) ∧ ((up D 8 (D 7 3) l1) 7 3) < 6)
      (chk (0 ≤ ((up (up D 8 (D 7 3) l1) 9 ((up D 8 (D 7 3) l1) 7 3) l2) 7 3) ∧ ((up (up D 8 (D 7 3) l1) 9 ((up D 8 (D 7 3) l1) 7 3) l2) 7 3) < 6)
        (Q 0 t (up (up (up (up D 8 (D 7 3) l1) 9 ((up D 8 (D 7 3) l1) 7 3) l2) 10 ((up (up D 8 (D 7 3) l1) 9 ((up D 8 (D 7 3) l1) 7 3) l2) 7 3) l3) 7 3 (((up (up (up D 8 (D 7 3) l1) 9 ((up D 8 (D 7 3) l1) 7 3) l2) 10 ((up (up D 8 (D 7 3) l1) 9 ((up D 8 (D 7 3) l1) 7 3) l2) 7 3) l3) 7 3) + 1))))))
  else
  (Q 0 t D))) : wp S 63 0 [some (qs 7), some (qi l1), some (qi l2), some (qi l3)] [] t D Q := vc_ok (cuts := []) 600 0 _ _ _ _ h
/-! 64 X7_sortsOf -/
set_option maxRecDepth 100000 in
theorem b64_0 {S : (Nat → Int32) × Nat} {t : qT} {D : qD} {Q : Int → qT → qD → Prop} {l1 l2 : Int} (h :
wp S 64 5 [some (qs 7), some (qi l1), some (qi l2), some (qi 0), some (qi 0)] [] t D Q) : wp S 64 0 [some (qs 7), some (qi l1), some (qi l2), none, none] [] t D Q := vc_ok (cuts := [5]) 600 0 _ _ _ _ h
set_option maxRecDepth 100000 in
theorem b64_5 {S : (Nat → Int32) × Nat} {t : qT} {D : qD} {Q : Int → qT → qD → Prop} {l1 l2 l3 l4 : Int} (h :
chk (qR l4)
(if l4 < 5 then
  (wp S 65 0 [some (qs 7), some (qi l4), some (qi l1), some (qi l2), none] [] t D (fun x1 t1 D1 =>
      (chk (qR x1)
        (if x1 = 0 then
          (wp S 64 5 [some (qs 7), some (qi l1), some (qi l2), some (qi l3), some (qi (l4 + 1))] [] t1 D1 Q)
          else
          (wp S 64 5 [some (qs 7), some (qi l1), some (qi l2), some (qi (qor l3 (qshl 1 l4))), some (qi (l4 + 1))] [] t1 D1 Q)))))
  else
  (Q l3 t D))) : wp S 64 5 [some (qs 7), some (qi l1), some (qi l2), some (qi l3), some (qi l4)] [] t D Q := vc_ok (cuts := [5]) 600 5 _ _ _ _ h
/-! 65 X7_canBe -/
set_option maxRecDepth 100000 in
theorem b65_0 {S : (Nat → Int32) × Nat} {t : qT} {D : qD} {Q : Int → qT → qD → Prop} {l1 l2 l3 : Int} (h :
wp S 65 3 [some (qs 7), some (qi l1), some (qi l2), some (qi l3), some (qi 0)] [] t D Q) : wp S 65 0 [some (qs 7), some (qi l1), some (qi l2), some (qi l3), none] [] t D Q := vc_ok (cuts := [3]) 600 0 _ _ _ _ h
set_option maxRecDepth 100000 in
theorem b65_3 {S : (Nat → Int32) × Nat} {t : qT} {D : qD} {Q : Int → qT → qD → Prop} {l1 l2 l3 l4 : Int} (h :
chk (qR l4)
(chk (qR (D 7 3))
  (if l4 < (D 7 3) then
    (chk (0 ≤ l4 ∧ l4 < 6)
      (chk (qR (D 8 l4))
        (chk (qR l2)
          (if (D 8 l4) = l2 then
            (chk (0 ≤ l4 ∧ l4 < 6)
              (wp S 106 0 [some (qi l1), some (qi l3), some (qi (D 9 l4))] [] t D (fun x1 t1 D1 =>
                  (chk (0 ≤ l4 ∧ l4 < 6)
                    (chk (qR x1)
                      (chk (qR (D1 10 l4))
                        (if x1 = (D1 10 l4) then
                        (wp S 65 3 [some (qs 7), some (qi l1), some (qi l2), some (qi l3), some (qi (l4 + 1))] [] t1 D1 Q)
                        else
                        (Q 0 t1 D1))))))))
            else
            (wp S 65 3 [some (qs 7), some (qi l1), some (qi l2), some (qi l3), some (qi (l4 + 1))] [] t D Q)))))
    else
    (Q 1 t D)))) : wp S 65 3 [some (qs 7), some (qi l1), some (qi l2), some (qi l3), some (qi l4)] [] t D Q := vc_ok (cuts := [3]) 600 3 _ _ _ _ h
/-! 66 X7_become -/
set_option maxRecDepth 100000 in
theorem b66s_0 {S : (Nat → Int32) × Nat} {t : qT} {D : qD} {Q : Int → qT → qD → Prop} (h :
Q 0 t (up (upr (upr (upr D 8 (q_cp (D 12) (D 8) 0 0 6)) 9 (q_cp ((upr D 8 (q_cp (D 12) (D 8) 0 0 6)) 13) ((upr D 8 (q_cp (D 12) (D 8) 0 0 6)) 9) 0 0 6)) 10 (q_cp ((upr (upr D 8 (q_cp (D 12) (D 8) 0 0 6)) 9 (q_cp ((upr D 8 (q_cp (D 12) (D 8) 0 0 6)) 13) ((upr D 8 (q_cp (D 12) (D 8) 0 0 6)) 9) 0 0 6)) 14) ((upr (upr D 8 (q_cp (D 12) (D 8) 0 0 6)) 9 (q_cp ((upr D 8 (q_cp (D 12) (D 8) 0 0 6)) 13) ((upr D 8 (q_cp (D 12) (D 8) 0 0 6)) 9) 0 0 6)) 10) 0 0 6)) 7 3 ((upr (upr (upr D 8 (q_cp (D 12) (D 8) 0 0 6)) 9 (q_cp ((upr D 8 (q_cp (D 12) (D 8) 0 0 6)) 13) ((upr D 8 (q_cp (D 12) (D 8) 0 0 6)) 9) 0 0 6)) 10 (q_cp ((upr (upr D 8 (q_cp (D 12) (D 8) 0 0 6)) 9 (q_cp ((upr D 8 (q_cp (D 12) (D 8) 0 0 6)) 13) ((upr D 8 (q_cp (D 12) (D 8) 0 0 6)) 9) 0 0 6)) 14) ((upr (upr D 8 (q_cp (D 12) (D 8) 0 0 6)) 9 (q_cp ((upr D 8 (q_cp (D 12) (D 8) 0 0 6)) 13) ((upr D 8 (q_cp (D 12) (D 8) 0 0 6)) 9) 0 0 6)) 10) 0 0 6)) 11 3))) : wp S 66 0 [some (qs 7), some (qs 11)] [] t D Q := vc_ok (cuts := []) 600 0 _ _ _ _ h
set_option maxRecDepth 100000 in
theorem b66z_0 {S : (Nat → Int32) × Nat} {t : qT} {D : qD} {Q : Int → qT → qD → Prop} (h :
Q 0 t (up (upr (upr (upr D 12 (q_cp (D 8) (D 12) 0 0 6)) 13 (q_cp ((upr D 12 (q_cp (D 8) (D 12) 0 0 6)) 9) ((upr D 12 (q_cp (D 8) (D 12) 0 0 6)) 13) 0 0 6)) 14 (q_cp ((upr (upr D 12 (q_cp (D 8) (D 12) 0 0 6)) 13 (q_cp ((upr D 12 (q_cp (D 8) (D 12) 0 0 6)) 9) ((upr D 12 (q_cp (D 8) (D 12) 0 0 6)) 13) 0 0 6)) 10) ((upr (upr D 12 (q_cp (D 8) (D 12) 0 0 6)) 13 (q_cp ((upr D 12 (q_cp (D 8) (D 12) 0 0 6)) 9) ((upr D 12 (q_cp (D 8) (D 12) 0 0 6)) 13) 0 0 6)) 14) 0 0 6)) 11 3 ((upr (upr (upr D 12 (q_cp (D 8) (D 12) 0 0 6)) 13 (q_cp ((upr D 12 (q_cp (D 8) (D 12) 0 0 6)) 9) ((upr D 12 (q_cp (D 8) (D 12) 0 0 6)) 13) 0 0 6)) 14 (q_cp ((upr (upr D 12 (q_cp (D 8) (D 12) 0 0 6)) 13 (q_cp ((upr D 12 (q_cp (D 8) (D 12) 0 0 6)) 9) ((upr D 12 (q_cp (D 8) (D 12) 0 0 6)) 13) 0 0 6)) 10) ((upr (upr D 12 (q_cp (D 8) (D 12) 0 0 6)) 13 (q_cp ((upr D 12 (q_cp (D 8) (D 12) 0 0 6)) 9) ((upr D 12 (q_cp (D 8) (D 12) 0 0 6)) 13) 0 0 6)) 14) 0 0 6)) 7 3))) : wp S 66 0 [some (qs 11), some (qs 7)] [] t D Q := vc_ok (cuts := []) 600 0 _ _ _ _ h
end
section
/-! blocks, written by wip/whole/mkblk.py: what each stretch of a method asks -/
/-! 68 X8_letter -/
set_option maxRecDepth 100000 in
theorem b68_0 {S : (Nat → Int32) × Nat} {t : qT} {D : qD} {Q : Int → qT → qD → Prop} {l1 : Int} (h :
chk (qR l1)
(if l1 < 1 then
  (Q (-102) t D)
  else
  (chk (qR l1)
    (if 126 < l1 then
      (Q (-102) t D)
      else
      (chk (qR (D 1 1))
        (if (D 1 1) < 100 then
          (wp S 40 0 [some (qs 1), some (qi l1)] [] t D (fun _ t1 D1 =>
              (Q (D1 1 1) t1 D1)))
          else
          (Q (-104) t D))))))) : wp S 68 0 [some (qs 0), some (qi l1)] [] t D Q := vc_ok (cuts := []) 600 0 _ _ _ _ h
/-! 69 X8_blank -/
set_option maxRecDepth 100000 in
theorem b69_0 {S : (Nat → Int32) × Nat} {t : qT} {D : qD} {Q : Int → qT → qD → Prop} (h :
Q (D 1 1) t (up D 1 1 0)) : wp S 69 0 [some (qs 0), none] [] t D Q := vc_ok (cuts := []) 600 0 _ _ _ _ h
/-! 70 X8_fault -/
set_option maxRecDepth 100000 in
theorem b70_0 {S : (Nat → Int32) × Nat} {t : qT} {D : qD} {Q : Int → qT → qD → Prop} (h :
chk (((nwT t.1 t.2.2.1 (5, 0)) t.2.2.1).1 ≠ 8)
(wp S 43 0 [some (qr t.2.2.1)] [] ((nwT t.1 t.2.2.1 (5, 0)), (nwP t.2.1 t.2.2.1), ((t.2.2.1 + 1), (t.2.2.2 + 7))) (upr D t.2.2.1 (fun _ => 0)) (fun _ t1 D1 =>
    (chk ((t1.1 t.2.2.1).1 = 5)
      (wp S 44 0 [some (qr t.2.2.1), some (qs 1), none] [] t1 D1 (fun x2 t2 D2 =>
          (Q x2 t2 D2))))))) : wp S 70 0 [some (qs 0)] [] t D Q := vc_ok (cuts := []) 600 0 _ _ _ _ h
/-! 71 X8_text -/
set_option maxRecDepth 100000 in
theorem b71_0 {S : (Nat → Int32) × Nat} {t : qT} {D : qD} {Q : Int → qT → qD → Prop} (h :
chk (((nwT t.1 t.2.2.1 (5, 0)) t.2.2.1).1 ≠ 8)
(wp S 43 0 [some (qr t.2.2.1)] [] ((nwT t.1 t.2.2.1 (5, 0)), (nwP t.2.1 t.2.2.1), ((t.2.2.1 + 1), (t.2.2.2 + 7))) (upr D t.2.2.1 (fun _ => 0)) (fun _ t1 D1 =>
    (chk ((t1.1 t.2.2.1).1 = 5)
      (wp S 44 0 [some (qr t.2.2.1), some (qs 1), none] [] t1 D1 (fun x2 t2 D2 =>
          (chk (qR x2)
            (chk (qR (D2 1 1))
              (if x2 < (D2 1 1) then
                (Q (-103) t2 D2)
                else
                (chk ((t2.1 t.2.2.1).1 = 5)
                  (wp S 45 0 [some (qr t.2.2.1)] [] t2 D2 (fun x3 t3 D3 =>
                      (chk (qR x3)
                        (if x3 = 0 then
                        (Q (-103) t3 D3)
                        else
                        (chk (((nwT t3.1 t3.2.2.1 (0, 0)) t3.2.2.1).1 ≠ 8)
                        (wp S 0 0 [some (qr t3.2.2.1)] [] ((nwT t3.1 t3.2.2.1 (0, 0)), (nwP t3.2.1 t3.2.2.1), ((t3.2.2.1 + 1), (t3.2.2.2 + 6))) (upr D3 t3.2.2.1 (fun _ => 0)) (fun _ t4 D4 =>
                        (chk (((nwT t4.1 t4.2.2.1 (6, 0)) t4.2.2.1).1 ≠ 8)
                        (wp S 53 0 [some (qr t4.2.2.1), some (qs 1), some (qr t3.2.2.1)] [] ((nwT t4.1 t4.2.2.1 (6, 0)), (nwP t4.2.1 t4.2.2.1), ((t4.2.2.1 + 1), (t4.2.2.2 + 8))) (upr D4 t4.2.2.1 (fun _ => 0)) (fun _ t5 D5 =>
                        (chk ((t5.1 t4.2.2.1).1 = 6)
                        (wp S 54 0 [some (qr t4.2.2.1), none] [] t5 D5 (fun _ t6 D6 =>
                        (chk (((nwT t6.1 t6.2.2.1 (3, 0)) t6.2.2.1).1 ≠ 8)
                        (wp S 24 0 [some (qr t6.2.2.1), some (qr t3.2.2.1), none, none] [] ((nwT t6.1 t6.2.2.1 (3, 0)), (nwP t6.2.1 t6.2.2.1), ((t6.2.2.1 + 1), (t6.2.2.2 + 9))) (upr D6 t6.2.2.1 (fun _ => 0)) (fun _ t7 D7 =>
                        (wp S 20 0 [some (qs 3)] [] (t7.1, (upP t7.2.1 0 5 t6.2.2.1), t7.2.2) D7 (fun _ t8 D8 =>
                        (chk ((t8.1 t3.2.2.1).1 = 0)
                        (Q ((up (up (up D8 7 3 0) 1 1 0) 0 7 ((D8 0 7) + 1)) t3.2.2.1 0) (t8.1, (upP t8.2.1 0 6 0), t8.2.2) (up (up (up D8 7 3 0) 1 1 0) 0 7 ((D8 0 7) + 1)))))))))))))))))))))))))))))))) : wp S 71 0 [some (qs 0), none, none] [] t D Q := vc_ok (cuts := []) 600 0 _ _ _ _ h
/-! 72 X8_row -/
set_option maxRecDepth 100000 in
theorem b72_0 {S : (Nat → Int32) × Nat} {t : qT} {D : qD} {Q : Int → qT → qD → Prop} {l1 l2 l3 : Int} (h :
wp S 99 0 [some (qs 0), some (qi l1)] [] t D (fun x1 t1 D1 =>
  (chk (qR x1)
    (if x1 = 0 then
      (Q (-101) t1 D1)
      else
      (wp S 102 0 [some (qi l2), some (qi 10)] [] t1 D1 (fun x2 t2 D2 =>
          (chk (qR x2)
            (if x2 = 0 then
              (Q (-101) t2 D2)
              else
              (wp S 102 0 [some (qi l3), some (qi 6)] [] t2 D2 (fun x3 t3 D3 =>
                  (chk (qR x3)
                    (if x3 = 0 then
                      (Q (-102) t3 D3)
                      else
                      (chk ((t3.1 (t3.2.1 0 5)).1 = 3)
                        (chk ((t3.1 (t3.2.1 (t3.2.1 0 5) 0)).1 = 0)
                        (wp S 1 0 [some (qr (t3.2.1 (t3.2.1 0 5) 0)), some (qi l1), some (qi l2), some (qi l3)] [] t3 D3 (fun x4 t4 D4 =>
                        (Q x4 t4 D4))))))))))))))))) : wp S 72 0 [some (qs 0), some (qi l1), some (qi l2), some (qi l3)] [] t D Q := vc_ok (cuts := []) 600 0 _ _ _ _ h
/-! 73 X8_pad -/
set_option maxRecDepth 100000 in
theorem b73_0 {S : (Nat → Int32) × Nat} {t : qT} {D : qD} {Q : Int → qT → qD → Prop} {l1 l2 l3 : Int} (h :
wp S 100 0 [some (qs 0), some (qi l1), some (qi l2)] [] t D (fun x1 t1 D1 =>
  (chk (qR x1)
    (if x1 = 0 then
      (Q (-101) t1 D1)
      else
      (wp S 102 0 [some (qi l3), some (qi 7)] [] t1 D1 (fun x2 t2 D2 =>
          (chk (qR x2)
            (if x2 = 0 then
              (Q (-102) t2 D2)
              else
              (chk (qR l3)
                (if l3 = 0 then
                  (chk ((t2.1 (t2.2.1 0 5)).1 = 3)
                    (wp S 103 0 [some (qi l1), some (qi l2)] [] t2 D2 (fun x3 t3 D3 =>
                        (chk ((t3.1 (t2.2.1 (t2.2.1 0 5) 1)).1 = 10)
                        (chk (0 ≤ x3 ∧ x3 < (t3.1 (t2.2.1 (t2.2.1 0 5) 1)).2)
                        (Q (D3 (t2.2.1 (t2.2.1 0 5) 1) x3) t3 D3))))))
                  else
                  (chk (qR l3)
                    (if 4 < l3 then
                      (chk ((t2.1 (t2.2.1 0 5)).1 = 3)
                        (chk ((t2.1 (t2.2.1 (t2.2.1 0 5) 0)).1 = 0)
                        (wp S 5 0 [some (qr (t2.2.1 (t2.2.1 0 5) 0)), some (qi l1), some (qi l2), some (qi 3)] [] t2 D2 (fun x4 t4 D4 =>
                        (wp S 103 0 [some (qi l1), some (qi l2)] [] t4 D4 (fun x5 t5 D5 =>
                        (wp S 64 0 [some (qs 7), some (qi x5), some (qi x4), none, none] [] t5 D5 (fun x6 t6 D6 =>
                        (chk (qR l3)
                        (if l3 = 5 then
                        (Q x6 t6 D6)
                        else
                        (wp S 107 0 [some (qi x6), some (qi x4), none, none, none, none] [] t6 D6 (fun x7 t7 D7 =>
                        (Q x7 t7 D7)))))))))))))
                      else
                      (chk ((t2.1 (t2.2.1 0 5)).1 = 3)
                        (chk ((t2.1 (t2.2.1 (t2.2.1 0 5) 0)).1 = 0)
                        (wp S 5 0 [some (qr (t2.2.1 (t2.2.1 0 5) 0)), some (qi l1), some (qi l2), some (qi l3)] [] t2 D2 (fun x8 t8 D8 =>
                        (Q x8 t8 D8))))))))))))))))) : wp S 73 0 [some (qs 0), some (qi l1), some (qi l2), some (qi l3), none, none] [] t D Q := vc_ok (cuts := []) 600 0 _ _ _ _ h
/-! 74 X8_as -/
set_option maxRecDepth 100000 in
theorem b74_0 {S : (Nat → Int32) × Nat} {t : qT} {D : qD} {Q : Int → qT → qD → Prop} {l1 l2 l3 : Int} (h :
wp S 100 0 [some (qs 0), some (qi l1), some (qi l2)] [] t D (fun x1 t1 D1 =>
  (chk (qR x1)
    (if x1 = 0 then
      (Q (-101) t1 D1)
      else
      (wp S 102 0 [some (qi l3), some (qi 5)] [] t1 D1 (fun x2 t2 D2 =>
          (chk (qR x2)
            (if x2 = 0 then
              (Q (-102) t2 D2)
              else
              (chk ((t2.1 (t2.2.1 0 5)).1 = 3)
                (wp S 103 0 [some (qi l1), some (qi l2)] [] t2 D2 (fun x3 t3 D3 =>
                    (chk ((t3.1 (t2.2.1 (t2.2.1 0 5) 1)).1 = 10)
                      (chk (0 ≤ x3 ∧ x3 < (t3.1 (t2.2.1 (t2.2.1 0 5) 1)).2)
                        (wp S 105 0 [some (qi (D3 (t2.2.1 (t2.2.1 0 5) 1) x3)), some (qi l3)] [] t3 D3 (fun x4 t4 D4 =>
                        (chk (qR x4)
                        (if x4 = 0 then
                        (Q (-1) t4 D4)
                        else
                        (Q l2 t4 D4)))))))))))))))))) : wp S 74 0 [some (qs 0), some (qi l1), some (qi l2), some (qi l3)] [] t D Q := vc_ok (cuts := []) 600 0 _ _ _ _ h
/-! 75 X8_frame -/
set_option maxRecDepth 100000 in
theorem b75_0 {S : (Nat → Int32) × Nat} {t : qT} {D : qD} {Q : Int → qT → qD → Prop} {l1 l2 : Int} (h :
chk ((t.1 (t.2.1 0 5)).1 = 3)
(wp S 102 0 [some (qi l1), some (qi (D (t.2.1 0 5) 7))] [] t D (fun x1 t1 D1 =>
    (chk (qR x1)
      (if x1 = 0 then
        (Q (-101) t1 D1)
        else
        (wp S 102 0 [some (qi l2), some (qi 12)] [] t1 D1 (fun x2 t2 D2 =>
            (chk (qR x2)
              (if x2 = 0 then
                (Q (-102) t2 D2)
                else
                (chk ((t2.1 (t2.2.1 0 5)).1 = 3)
                  (wp S 26 0 [some (qr (t2.2.1 0 5)), some (qi l1)] [] t2 D2 (fun x3 t3 D3 =>
                      (chk (qR l2)
                        (if l2 = 0 then
                        (chk ((t3.1 (t3.2.1 0 5)).1 = 3)
                        (chk ((t3.1 (t3.2.1 (t3.2.1 0 5) 3)).1 = 10)
                        (chk (0 ≤ x3 ∧ x3 < (t3.1 (t3.2.1 (t3.2.1 0 5) 3)).2)
                        (Q (D3 (t3.2.1 (t3.2.1 0 5) 3) x3) t3 D3))))
                        else
                        (chk (qR l2)
                        (if l2 = 1 then
                        (chk ((t3.1 (t3.2.1 0 5)).1 = 3)
                        (chk ((t3.1 (t3.2.1 (t3.2.1 0 5) 4)).1 = 10)
                        (chk (0 ≤ x3 ∧ x3 < (t3.1 (t3.2.1 (t3.2.1 0 5) 4)).2)
                        (Q (D3 (t3.2.1 (t3.2.1 0 5) 4) x3) t3 D3))))
                        else
                        (chk (qR l2)
                        (if l2 < 8 then
                        (chk ((t3.1 (t3.2.1 0 5)).1 = 3)
                        (chk ((t3.1 (t3.2.1 (t3.2.1 0 5) 5)).1 = 10)
                        (chk (0 ≤ (((x3 * 6) + l2) - 2) ∧ (((x3 * 6) + l2) - 2) < (t3.1 (t3.2.1 (t3.2.1 0 5) 5)).2)
                        (Q (D3 (t3.2.1 (t3.2.1 0 5) 5) (((x3 * 6) + l2) - 2)) t3 D3))))
                        else
                        (chk ((t3.1 (t3.2.1 0 5)).1 = 3)
                        (wp S 33 0 [some (qr (t3.2.1 0 5)), some (qi x3), some (qi ((l2 - 2) - 6)), none, none] [] t3 D3 (fun x4 t4 D4 =>
                        (Q x4 t4 D4)))))))))))))))))))))) : wp S 75 0 [some (qs 0), some (qi l1), some (qi l2), none] [] t D Q := vc_ok (cuts := []) 600 0 _ _ _ _ h
/-! 76 X8_register -/
set_option maxRecDepth 100000 in
theorem b76_0 {S : (Nat → Int32) × Nat} {t : qT} {D : qD} {Q : Int → qT → qD → Prop} {l1 : Int} (h :
wp S 102 0 [some (qi l1), some (qi 4)] [] t D (fun x1 t1 D1 =>
  (chk (qR x1)
    (if x1 = 0 then
      (Q (-101) t1 D1)
      else
      (chk ((t1.1 (t1.2.1 0 5)).1 = 3)
        (chk ((t1.1 (t1.2.1 (t1.2.1 0 5) 2)).1 = 10)
          (chk (0 ≤ l1 ∧ l1 < (t1.1 (t1.2.1 (t1.2.1 0 5) 2)).2)
            (Q (D1 (t1.2.1 (t1.2.1 0 5) 2) l1) t1 D1)))))))) : wp S 76 0 [some (qs 0), some (qi l1)] [] t D Q := vc_ok (cuts := []) 600 0 _ _ _ _ h
/-! 77 X8_call -/
set_option maxRecDepth 100000 in
theorem b77_0 {S : (Nat → Int32) × Nat} {t : qT} {D : qD} {Q : Int → qT → qD → Prop} {l1 : Int} (h :
wp S 99 0 [some (qs 0), some (qi l1)] [] t D (fun x1 t1 D1 =>
  (chk (qR x1)
    (if x1 = 0 then
      (Q (-101) t1 D1)
      else
      (chk ((t1.1 (t1.2.1 0 5)).1 = 3)
        (chk (qR (D1 (t1.2.1 0 5) 7))
          (if (D1 (t1.2.1 0 5) 7) < 8 then
            (wp S 101 0 [some (qs 0)] [] t1 D1 (fun _ t2 D2 =>
                (chk ((t2.1 (t2.2.1 0 5)).1 = 3)
                  (wp S 28 0 [some (qr (t2.2.1 0 5)), some (qi l1), none] [] t2 D2 (fun _ t3 D3 =>
                      (chk ((t3.1 (t3.2.1 0 5)).1 = 3)
                        (Q (D3 (t3.2.1 0 5) 7) t3 D3)))))))
            else
            (Q (-104) t1 D1)))))))) : wp S 77 0 [some (qs 0), some (qi l1)] [] t D Q := vc_ok (cuts := []) 600 0 _ _ _ _ h
/-! 78 X8_go -/
set_option maxRecDepth 100000 in
theorem b78_0 {S : (Nat → Int32) × Nat} {t : qT} {D : qD} {Q : Int → qT → qD → Prop} {l1 : Int} (h :
chk (qR l1)
(if l1 < 1 then
  (Q (-102) t D)
  else
  (chk (qR l1)
    (if l1 < 10 then
      (chk ((t.1 (t.2.1 0 5)).1 = 3)
        (chk (qR (D (t.2.1 0 5) 7))
          (if (D (t.2.1 0 5) 7) < 1 then
            (Q (-103) t D)
            else
            (chk ((t.1 (t.2.1 0 5)).1 = 3)
              (wp S 27 0 [some (qr (t.2.1 0 5))] [] t D (fun x1 t1 D1 =>
                  (chk (qR (x1 + l1))
                    (if (x1 + l1) < 10 then
                      (wp S 101 0 [some (qs 0)] [] t1 D1 (fun _ t2 D2 =>
                        (wp S 78 48 [some (qs 0), some (qi l1), some (qi 0)] [] t2 D2 Q)))
                      else
                      (Q (-103) t1 D1)))))))))
      else
      (Q (-102) t D))))) : wp S 78 0 [some (qs 0), some (qi l1), none] [] t D Q := vc_ok (cuts := [48]) 600 0 _ _ _ _ h
set_option maxRecDepth 100000 in
theorem b78_48 {S : (Nat → Int32) × Nat} {t : qT} {D : qD} {Q : Int → qT → qD → Prop} {l1 l2 : Int} (h :
chk (qR l2)
(chk (qR l1)
  (if l2 < l1 then
    (chk ((t.1 (t.2.1 0 5)).1 = 3)
      (wp S 29 0 [some (qr (t.2.1 0 5))] [] t D (fun _ t1 D1 =>
          (wp S 78 48 [some (qs 0), some (qi l1), some (qi (l2 + 1))] [] t1 D1 Q))))
    else
    (chk ((t.1 (t.2.1 0 5)).1 = 3)
      (wp S 27 0 [some (qr (t.2.1 0 5))] [] t D (fun x2 t2 D2 =>
          (Q x2 t2 D2))))))) : wp S 78 48 [some (qs 0), some (qi l1), some (qi l2)] [] t D Q := vc_ok (cuts := [48]) 600 48 _ _ _ _ h
/-! 79 X8_set -/
set_option maxRecDepth 100000 in
theorem b79_0 {S : (Nat → Int32) × Nat} {t : qT} {D : qD} {Q : Int → qT → qD → Prop} {l1 l2 : Int} (h :
wp S 102 0 [some (qi l1), some (qi 4)] [] t D (fun x1 t1 D1 =>
  (chk (qR x1)
    (if x1 = 0 then
      (Q (-101) t1 D1)
      else
      (wp S 102 0 [some (qi l2), some (qi 1000)] [] t1 D1 (fun x2 t2 D2 =>
          (chk (qR x2)
            (if x2 = 0 then
              (Q (-102) t2 D2)
              else
              (wp S 98 0 [some (qs 0)] [] t2 D2 (fun x3 t3 D3 =>
                  (chk (qR x3)
                    (if x3 = 0 then
                      (Q (-103) t3 D3)
                      else
                      (wp S 101 0 [some (qs 0)] [] t3 D3 (fun _ t4 D4 =>
                        (chk ((t4.1 (t4.2.1 0 5)).1 = 3)
                        (chk ((t4.1 (t4.2.1 (t4.2.1 0 5) 2)).1 = 10)
                        (chk (0 ≤ l1 ∧ l1 < (t4.1 (t4.2.1 (t4.2.1 0 5) 2)).2)
                        (chk ((t4.1 (t4.2.1 0 5)).1 = 3)
                        (chk ((t4.1 (t4.2.1 (t4.2.1 0 5) 2)).1 = 10)
                        (chk (0 ≤ l1 ∧ l1 < (t4.1 (t4.2.1 (t4.2.1 0 5) 2)).2)
                        (Q (D4 (t4.2.1 (t4.2.1 0 5) 2) l1) t4 (up D4 (t4.2.1 (t4.2.1 0 5) 2) l1 l2)))))))))))))))))))))) : wp S 79 0 [some (qs 0), some (qi l1), some (qi l2), none] [] t D Q := vc_ok (cuts := []) 600 0 _ _ _ _ h
/-! 80 X8_back -/
set_option maxRecDepth 100000 in
theorem b80_0 {S : (Nat → Int32) × Nat} {t : qT} {D : qD} {Q : Int → qT → qD → Prop} (h :
chk ((t.1 (t.2.1 0 5)).1 = 3)
(chk (qR (D (t.2.1 0 5) 7))
  (if (D (t.2.1 0 5) 7) < 1 then
    (Q (-103) t D)
    else
    (wp S 101 0 [some (qs 0)] [] t D (fun _ t1 D1 =>
        (chk ((t1.1 (t1.2.1 0 5)).1 = 3)
          (wp S 31 0 [some (qr (t1.2.1 0 5)), none] [] t1 D1 (fun _ t2 D2 =>
              (chk ((t2.1 (t2.2.1 0 5)).1 = 3)
                (Q (D2 (t2.2.1 0 5) 7) t2 D2)))))))))) : wp S 80 0 [some (qs 0)] [] t D Q := vc_ok (cuts := []) 600 0 _ _ _ _ h
/-! 81 X8_raise -/
set_option maxRecDepth 100000 in
theorem b81_0 {S : (Nat → Int32) × Nat} {t : qT} {D : qD} {Q : Int → qT → qD → Prop} {l1 : Int} (h :
wp S 102 0 [some (qi l1), some (qi 5)] [] t D (fun x1 t1 D1 =>
  (chk (qR x1)
    (if x1 = 0 then
      (Q (-102) t1 D1)
      else
      (wp S 98 0 [some (qs 0)] [] t1 D1 (fun x2 t2 D2 =>
          (chk (qR x2)
            (if x2 = 0 then
              (Q (-103) t2 D2)
              else
              (chk ((t2.1 (t2.2.1 0 5)).1 = 3)
                (wp S 34 0 [some (qr (t2.2.1 0 5)), some (qi l1), none, none, none] [] t2 D2 (fun x3 t3 D3 =>
                    (chk (qR x3)
                      (if x3 = (-1) then
                        (Q (-1) t3 D3)
                        else
                        (wp S 101 0 [some (qs 0)] [] t3 D3 (fun _ t4 D4 =>
                        (chk ((t4.1 (t4.2.1 0 5)).1 = 3)
                        (wp S 37 0 [some (qr (t4.2.1 0 5)), some (qi x3), some (qi l1), none, none] [] t4 D4 (fun _ t5 D5 =>
                        (chk (0 ≤ x3 ∧ x3 < 2147483648)
                        (Q (x3 / 3) t5 D5)))))))))))))))))))) : wp S 81 0 [some (qs 0), some (qi l1), none] [] t D Q := vc_ok (cuts := []) 600 0 _ _ _ _ h
/-! 82 X8_change -/
set_option maxRecDepth 100000 in
theorem b82_0 {S : (Nat → Int32) × Nat} {t : qT} {D : qD} {Q : Int → qT → qD → Prop} {l1 l2 l3 : Int} (h :
wp S 100 0 [some (qs 0), some (qi l1), some (qi l2)] [] t D (fun x1 t1 D1 =>
  (chk (qR x1)
    (if x1 = 0 then
      (Q (-101) t1 D1)
      else
      (wp S 102 0 [some (qi l3), some (qi 5)] [] t1 D1 (fun x2 t2 D2 =>
          (chk (qR x2)
            (if x2 = 0 then
              (Q (-102) t2 D2)
              else
              (wp S 101 0 [some (qs 0)] [] t2 D2 (fun _ t3 D3 =>
                  (chk ((t3.1 (t3.2.1 0 5)).1 = 3)
                    (wp S 103 0 [some (qi l1), some (qi l2)] [] t3 D3 (fun x4 t4 D4 =>
                        (chk ((t4.1 (t3.2.1 (t3.2.1 0 5) 1)).1 = 10)
                        (chk (0 ≤ x4 ∧ x4 < (t4.1 (t3.2.1 (t3.2.1 0 5) 1)).2)
                        (chk ((t4.1 (t4.2.1 0 5)).1 = 3)
                        (wp S 103 0 [some (qi l1), some (qi l2)] [] t4 D4 (fun x5 t5 D5 =>
                        (chk ((t5.1 (t4.2.1 (t4.2.1 0 5) 1)).1 = 10)
                        (chk (0 ≤ x5 ∧ x5 < (t5.1 (t4.2.1 (t4.2.1 0 5) 1)).2)
                        (Q (D4 (t3.2.1 (t3.2.1 0 5) 1) x4) t5 (up D5 (t4.2.1 (t4.2.1 0 5) 1) x5 l3)))))))))))))))))))))) : wp S 82 0 [some (qs 0), some (qi l1), some (qi l2), some (qi l3), none] [] t D Q := vc_ok (cuts := []) 600 0 _ _ _ _ h
/-! 83 X8_undo -/
set_option maxRecDepth 100000 in
theorem b83_0 {S : (Nat → Int32) × Nat} {t : qT} {D : qD} {Q : Int → qT → qD → Prop} (h :
chk (qR (D 3 2))
(if (D 3 2) < 1 then
  (Q (-103) t D)
  else
  (wp S 22 0 [some (qs 3), some (qr (t.2.1 0 5))] [] t D (fun x1 t1 D1 =>
      (Q (D1 3 2) (t1.1, (upP t1.2.1 0 5 (x1).toNat), t1.2.2) D1))))) : wp S 83 0 [some (qs 0)] [] t D Q := vc_ok (cuts := []) 600 0 _ _ _ _ h
/-! 84 X8_search -/
set_option maxRecDepth 100000 in
theorem b84_0 {S : (Nat → Int32) × Nat} {t : qT} {D : qD} {Q : Int → qT → qD → Prop} {l1 l2 : Int} (h :
wp S 102 0 [some (qi l1), some (qi 5)] [] t D (fun x1 t1 D1 =>
  (chk (qR x1)
    (if x1 = 0 then
      (Q (-102) t1 D1)
      else
      (wp S 102 0 [some (qi l2), some (qi 3)] [] t1 D1 (fun x2 t2 D2 =>
          (chk (qR x2)
            (if x2 = 0 then
              (Q (-102) t2 D2)
              else
              (wp S 98 0 [some (qs 0)] [] t2 D2 (fun x3 t3 D3 =>
                  (chk (qR x3)
                    (if x3 = 0 then
                      (Q (-103) t3 D3)
                      else
                      (chk ((t3.1 (t3.2.1 0 5)).1 = 3)
                        (wp S 34 0 [some (qr (t3.2.1 0 5)), some (qi l1), none, none, none] [] t3 D3 (fun x4 t4 D4 =>
                        (chk (qR x4)
                        (if x4 = (-1) then
                        (Q (-1) t4 D4)
                        else
                        (chk (qR l2)
                        (if l2 = 2 then
                        (chk ((t4.1 (t4.2.1 0 5)).1 = 3)
                        (wp S 36 0 [some (qr (t4.2.1 0 5)), some (qi x4), some (qi l1), none, none, none] [] t4 D4 (fun x5 t5 D5 =>
                        (Q x5 t5 D5))))
                        else
                        (chk (qR l2)
                        (if l2 = 0 then
                        (chk (0 ≤ x4 ∧ x4 < 2147483648)
                        (Q (x4 / 3) t4 D4))
                        else
                        (chk (0 ≤ x4 ∧ x4 < 2147483648)
                        (Q (x4 % 3) t4 D4))))))))))))))))))))))) : wp S 84 0 [some (qs 0), some (qi l1), some (qi l2), none] [] t D Q := vc_ok (cuts := []) 600 0 _ _ _ _ h
/-! 85 X8_loose -/
set_option maxRecDepth 100000 in
theorem b85_0 {S : (Nat → Int32) × Nat} {t : qT} {D : qD} {Q : Int → qT → qD → Prop} (h :
wp S 98 0 [some (qs 0)] [] t D (fun x1 t1 D1 =>
  (chk (qR x1)
    (if x1 = 0 then
      (Q (-103) t1 D1)
      else
      (wp S 85 14 [some (qs 0), some (qi 0), some (qi 0)] [] t1 D1 Q))))) : wp S 85 0 [some (qs 0), none, none] [] t D Q := vc_ok (cuts := [14]) 600 0 _ _ _ _ h
set_option maxRecDepth 100000 in
theorem b85_14 {S : (Nat → Int32) × Nat} {t : qT} {D : qD} {Q : Int → qT → qD → Prop} {l1 l2 : Int} (h :
chk (qR l2)
(if l2 < 5 then
  (chk ((t.1 (t.2.1 0 5)).1 = 3)
    (wp S 34 0 [some (qr (t.2.1 0 5)), some (qi l2), none, none, none] [] t D (fun x1 t1 D1 =>
        (chk (qR x1)
          (if x1 = (-1) then
            (wp S 85 14 [some (qs 0), some (qi (qor l1 (qshl 1 l2))), some (qi (l2 + 1))] [] t1 D1 Q)
            else
            (wp S 85 14 [some (qs 0), some (qi l1), some (qi (l2 + 1))] [] t1 D1 Q))))))
  else
  (Q l1 t D))) : wp S 85 14 [some (qs 0), some (qi l1), some (qi l2)] [] t D Q := vc_ok (cuts := [14]) 600 14 _ _ _ _ h
/-! 86 X8_finished -/
set_option maxRecDepth 100000 in
theorem b86_0 {S : (Nat → Int32) × Nat} {t : qT} {D : qD} {Q : Int → qT → qD → Prop} {l1 : Int} (h :
chk (qR l1)
(if l1 = (-1) then
  (chk ((t.1 (t.2.1 0 5)).1 = 3)
    (Q (D (t.2.1 0 5) 8) t D))
  else
  (chk ((t.1 (t.2.1 0 5)).1 = 3)
    (wp S 102 0 [some (qi l1), some (qi (D (t.2.1 0 5) 8))] [] t D (fun x1 t1 D1 =>
        (chk (qR x1)
          (if x1 = 0 then
            (Q (-101) t1 D1)
            else
            (chk ((t1.1 (t1.2.1 0 5)).1 = 3)
              (chk ((t1.1 (t1.2.1 (t1.2.1 0 5) 6)).1 = 10)
                (chk (0 ≤ l1 ∧ l1 < (t1.1 (t1.2.1 (t1.2.1 0 5) 6)).2)
                  (Q (D1 (t1.2.1 (t1.2.1 0 5) 6) l1) t1 D1))))))))))) : wp S 86 0 [some (qs 0), some (qi l1)] [] t D Q := vc_ok (cuts := []) 600 0 _ _ _ _ h
/-! 87 X8_same -/
set_option maxRecDepth 100000 in
theorem b87_0 {S : (Nat → Int32) × Nat} {t : qT} {D : qD} {Q : Int → qT → qD → Prop} {l1 l2 : Int} (h :
wp S 99 0 [some (qs 0), some (qi l1)] [] t D (fun x1 t1 D1 =>
  (chk (qR x1)
    (if x1 = 0 then
      (Q (-101) t1 D1)
      else
      (wp S 99 0 [some (qs 0), some (qi l2)] [] t1 D1 (fun x2 t2 D2 =>
          (chk (qR x2)
            (if x2 = 0 then
              (Q (-101) t2 D2)
              else
              (wp S 87 21 [some (qs 0), some (qi l1), some (qi l2), some (qi 0), none] [] t2 D2 Q))))))))) : wp S 87 0 [some (qs 0), some (qi l1), some (qi l2), none, none] [] t D Q := vc_ok (cuts := [21, 30]) 600 0 _ _ _ _ h
set_option maxRecDepth 100000 in
theorem b87_21 {S : (Nat → Int32) × Nat} {t : qT} {D : qD} {Q : Int → qT → qD → Prop} {l1 l2 l3 : Int} {o4 : Option qV} (h :
chk (qR l3)
(if l3 < 10 then
  (wp S 87 30 [some (qs 0), some (qi l1), some (qi l2), some (qi l3), some (qi 0)] [] t D Q)
  else
  (Q 1 t D))) : wp S 87 21 [some (qs 0), some (qi l1), some (qi l2), some (qi l3), o4] [] t D Q := vc_ok (cuts := [21, 30]) 600 21 _ _ _ _ h
set_option maxRecDepth 100000 in
theorem b87_30 {S : (Nat → Int32) × Nat} {t : qT} {D : qD} {Q : Int → qT → qD → Prop} {l1 l2 l3 l4 : Int} (h :
chk (qR l4)
(if l4 < 4 then
  (chk ((t.1 (t.2.1 0 5)).1 = 3)
    (chk ((t.1 (t.2.1 (t.2.1 0 5) 0)).1 = 0)
      (wp S 1 0 [some (qr (t.2.1 (t.2.1 0 5) 0)), some (qi l1), some (qi l3), some (qi l4)] [] t D (fun x1 t1 D1 =>
          (chk ((t1.1 (t1.2.1 0 5)).1 = 3)
            (chk ((t1.1 (t1.2.1 (t1.2.1 0 5) 0)).1 = 0)
              (wp S 1 0 [some (qr (t1.2.1 (t1.2.1 0 5) 0)), some (qi l2), some (qi l3), some (qi l4)] [] t1 D1 (fun x2 t2 D2 =>
                  (chk (qR x1)
                    (chk (qR x2)
                      (if x1 = x2 then
                        (wp S 87 30 [some (qs 0), some (qi l1), some (qi l2), some (qi l3), some (qi (l4 + 1))] [] t2 D2 Q)
                        else
                        (Q 0 t2 D2))))))))))))
  else
  (wp S 87 21 [some (qs 0), some (qi l1), some (qi l2), some (qi (l3 + 1)), some (qi l4)] [] t D Q))) : wp S 87 30 [some (qs 0), some (qi l1), some (qi l2), some (qi l3), some (qi l4)] [] t D Q := vc_ok (cuts := [21, 30]) 600 30 _ _ _ _ h
/-! 88 X8_see -/
set_option maxRecDepth 100000 in
theorem b88_0 {S : (Nat → Int32) × Nat} {t : qT} {D : qD} {Q : Int → qT → qD → Prop} {l1 l2 l3 l4 : Int} (h :
wp S 100 0 [some (qs 0), some (qi l1), some (qi l2)] [] t D (fun x1 t1 D1 =>
  (chk (qR x1)
    (if x1 = 0 then
      (Q (-101) t1 D1)
      else
      (wp S 102 0 [some (qi l3), some (qi 5)] [] t1 D1 (fun x2 t2 D2 =>
          (chk (qR x2)
            (if x2 = 0 then
              (Q (-102) t2 D2)
              else
              (wp S 102 0 [some (qi l4), some (qi 3)] [] t2 D2 (fun x3 t3 D3 =>
                  (chk (qR x3)
                    (if x3 = 0 then
                      (Q (-102) t3 D3)
                      else
                      (chk (qR (D3 7 3))
                        (if (D3 7 3) < 6 then
                        (wp S 103 0 [some (qi l1), some (qi l2)] [] t3 D3 (fun x4 t4 D4 =>
                        (wp S 63 0 [some (qs 7), some (qi x4), some (qi l3), some (qi l4)] [] t4 D4 (fun _ t5 D5 =>
                        (Q (D5 7 3) t5 D5)))))
                        else
                        (Q (-104) t3 D3))))))))))))))) : wp S 88 0 [some (qs 0), some (qi l1), some (qi l2), some (qi l3), some (qi l4)] [] t D Q := vc_ok (cuts := []) 600 0 _ _ _ _ h
/-! 89 X8_forget -/
set_option maxRecDepth 100000 in
theorem b89_0 {S : (Nat → Int32) × Nat} {t : qT} {D : qD} {Q : Int → qT → qD → Prop} (h :
Q (D 7 3) t (up D 7 3 0)) : wp S 89 0 [some (qs 0), none] [] t D Q := vc_ok (cuts := []) 600 0 _ _ _ _ h
/-! 90 X8_drawn -/
set_option maxRecDepth 100000 in
theorem b90_0 {S : (Nat → Int32) × Nat} {t : qT} {D : qD} {Q : Int → qT → qD → Prop} {l1 l2 l3 : Int} (h :
chk (qR l1)
(if l1 < 1 then
  (Q (-102) t D)
  else
  (chk (qR l1)
    (if 99 < l1 then
      (Q (-102) t D)
      else
      (chk (qR l2)
        (if l2 < 0 then
          (Q (-102) t D)
          else
          (wp S 102 0 [some (qi l3), some (qi 3)] [] t D (fun x1 t1 D1 =>
              (chk (qR x1)
                (if x1 = 0 then
                  (Q (-102) t1 D1)
                  else
                  (wp S 98 0 [some (qs 0)] [] t1 D1 (fun x2 t2 D2 =>
                      (chk (qR x2)
                        (if x2 = 0 then
                        (Q (-103) t2 D2)
                        else
                        (chk (((nwT t2.1 t2.2.2.1 (3, 0)) t2.2.2.1).1 ≠ 8)
                        (wp S 25 0 [some (qr t2.2.2.1), some (qr ((nwP t2.2.1 t2.2.2.1) 0 5))] [] ((nwT t2.1 t2.2.2.1 (3, 0)), (nwP t2.2.1 t2.2.2.1), ((t2.2.2.1 + 1), (t2.2.2.2 + 9))) (upr D2 t2.2.2.1 (fun _ => 0)) (fun _ t3 D3 =>
                        (chk (((nwT t3.1 t3.2.2.1 (1, 0)) t3.2.2.1).1 ≠ 8)
                        (wp S 15 0 [some (qr t3.2.2.1), some (qi l2)] [] ((nwT t3.1 t3.2.2.1 (1, 0)), (nwP t3.2.1 t3.2.2.1), ((t3.2.2.1 + 1), (t3.2.2.2 + 1))) (upr D3 t3.2.2.1 (fun _ => 0)) (fun _ t4 D4 =>
                        (wp S 90 65 [some (qs 0), some (qi l1), some (qi l2), some (qi l3), some (qr t2.2.2.1), some (qr t3.2.2.1), some (qi 0), some (qi 0)] [] t4 D4 Q))))))))))))))))))))) : wp S 90 0 [some (qs 0), some (qi l1), some (qi l2), some (qi l3), none, none, none, none] [] t D Q := vc_ok (cuts := [65]) 600 0 _ _ _ _ h
set_option maxRecDepth 100000 in
theorem b90_65 {S : (Nat → Int32) × Nat} {t : qT} {D : qD} {Q : Int → qT → qD → Prop} {l1 l2 l3 l6 l7 : Int} {l4 l5 : Nat} (h :
chk (qR l7)
(chk (qR l1)
  (if l7 < l1 then
    (chk ((t.1 l5).1 = 1)
      (wp S 17 0 [some (qr l5), some (qr l4), none] [] t D (fun x1 t1 D1 =>
          (chk (qR x1)
            (if x1 = 0 then
              (wp S 90 65 [some (qs 0), some (qi l1), some (qi l2), some (qi l3), some (qr l4), some (qr l5), some (qi l6), some (qi (l7 + 1))] [] t1 D1 Q)
              else
              (wp S 90 65 [some (qs 0), some (qi l1), some (qi l2), some (qi l3), some (qr l4), some (qr l5), some (qi (l6 + 1)), some (qi (l7 + 1))] [] t1 D1 Q))))))
    else
    (chk (qR l3)
      (if l3 = 0 then
        (Q l6 t D)
        else
        (chk (qR l3)
          (if l3 = 1 then
            (chk ((t.1 l4).1 = 3)
              (Q (D l4 7) t D))
            else
            (chk ((t.1 l5).1 = 1)
              (Q (D l5 0) t D))))))))) : wp S 90 65 [some (qs 0), some (qi l1), some (qi l2), some (qi l3), some (qr l4), some (qr l5), some (qi l6), some (qi l7)] [] t D Q := vc_ok (cuts := [65]) 600 65 _ _ _ _ h
/-! 91 X8_image -/
set_option maxRecDepth 100000 in
theorem b91_0 {S : (Nat → Int32) × Nat} {t : qT} {D : qD} {Q : Int → qT → qD → Prop} (h :
wp S 98 0 [some (qs 0)] [] t D (fun x1 t1 D1 =>
  (chk (qR x1)
    (if x1 = 0 then
      (Q (-103) t1 D1)
      else
      (wp S 23 0 [some (qs 5), some (qs 3), none] [] (t1.1, (upP t1.2.1 0 6 (t1.2.1 0 5)), t1.2.2) D1 (fun _ t2 D2 =>
          (wp S 66 0 [some (qs 11), some (qs 7)] [] t2 D2 (fun _ t3 D3 =>
              (chk ((t3.1 (t3.2.1 0 5)).1 = 3)
                (Q (D3 (t3.2.1 0 5) 7) t3 D3)))))))))) : wp S 91 0 [some (qs 0)] [] t D Q := vc_ok (cuts := []) 600 0 _ _ _ _ h
/-! 92 X8_restore -/
set_option maxRecDepth 100000 in
theorem b92_0 {S : (Nat → Int32) × Nat} {t : qT} {D : qD} {Q : Int → qT → qD → Prop} (h :
if (t.2.1 0 6) = 0 then
(Q (-103) t D)
else
(wp S 23 0 [some (qs 3), some (qs 5), none] [] (t.1, (upP t.2.1 0 5 (t.2.1 0 6)), t.2.2) D (fun _ t1 D1 =>
    (wp S 66 0 [some (qs 7), some (qs 11)] [] t1 D1 (fun _ t2 D2 =>
        (chk ((t2.1 (t2.2.1 0 5)).1 = 3)
          (Q (D2 (t2.2.1 0 5) 7) t2 D2))))))) : wp S 92 0 [some (qs 0)] [] t D Q := vc_ok (cuts := []) 600 0 _ _ _ _ h
/-! 93 X8_count -/
set_option maxRecDepth 100000 in
theorem b93_0 {S : (Nat → Int32) × Nat} {t : qT} {D : qD} {Q : Int → qT → qD → Prop} {l1 : Int} (h :
wp S 102 0 [some (qi l1), some (qi 8)] [] t D (fun x1 t1 D1 =>
  (chk (qR x1)
    (if x1 = 0 then
      (Q (-102) t1 D1)
      else
      (chk (qR l1)
        (if l1 = 0 then
          (chk ((t1.1 (t1.2.1 0 5)).1 = 3)
            (chk ((t1.1 (t1.2.1 (t1.2.1 0 5) 0)).1 = 0)
              (Q (D1 (t1.2.1 (t1.2.1 0 5) 0) 0) t1 D1)))
          else
          (if l1 = 1 then
            (chk ((t1.1 (t1.2.1 0 5)).1 = 3)
              (chk ((t1.1 (t1.2.1 (t1.2.1 0 5) 0)).1 = 0)
                (wp S 12 0 [some (qr (t1.2.1 (t1.2.1 0 5) 0)), none, none] [] t1 D1 (fun x2 t2 D2 =>
                    (Q x2 t2 D2)))))
            else
            (if l1 = 2 then
              (chk ((t1.1 (t1.2.1 0 5)).1 = 3)
                (Q (D1 (t1.2.1 0 5) 7) t1 D1))
              else
              (if l1 = 3 then
                (Q (D1 3 2) t1 D1)
                else
                (if l1 = 4 then
                  (chk ((t1.1 (t1.2.1 0 5)).1 = 3)
                    (chk ((t1.1 (t1.2.1 (t1.2.1 0 5) 0)).1 = 0)
                      (wp S 13 0 [some (qr (t1.2.1 (t1.2.1 0 5) 0)), none, none, none] [] t1 D1 (fun x3 t3 D3 =>
                        (Q x3 t3 D3)))))
                  else
                  (if l1 = 5 then
                    (Q (D1 7 3) t1 D1)
                    else
                    (if l1 = 6 then
                      (Q (D1 1 1) t1 D1)
                      else
                      (Q (D1 0 7) t1 D1))))))))))))) : wp S 93 0 [some (qs 0), some (qi l1)] [] t D Q := vc_ok (cuts := []) 600 0 _ _ _ _ h
/-! 94 X8_digest -/
set_option maxRecDepth 100000 in
theorem b94_0 {S : (Nat → Int32) × Nat} {t : qT} {D : qD} {Q : Int → qT → qD → Prop} (h :
wp S 94 6 [some (qs 0), some (ql 1399), none, some (qi 0), none] [] t D Q) : wp S 94 0 [some (qs 0), none, none, none, none] [] t D Q := vc_ok (cuts := [6, 35, 49, 83, 120, 150, 183]) 600 0 _ _ _ _ h
set_option maxRecDepth 100000 in
theorem b94_6 {S : (Nat → Int32) × Nat} {t : qT} {D : qD} {Q : Int → qT → qD → Prop} {l1 l3 : Int} (h :
chk ((t.1 (t.2.1 0 5)).1 = 3)
(chk ((t.1 (t.2.1 (t.2.1 0 5) 0)).1 = 0)
  (chk (qR l3)
    (chk (qR (D (t.2.1 (t.2.1 0 5) 0) 0))
      (if l3 < (D (t.2.1 (t.2.1 0 5) 0) 0) then
        (wp S 95 0 [some (qs 0), some (ql l1), none, some (qi l3), none, none, none, none] [] t D (fun x1 t1 D1 =>
            (wp S 94 6 [some (qs 0), some (ql x1), none, some (qi (l3 + 1)), none] [] t1 D1 Q)))
        else
        (wp S 94 35 [some (qs 0), some (ql l1), none, some (qi 0), none] [] t D Q)))))) : wp S 94 6 [some (qs 0), some (ql l1), none, some (qi l3), none] [] t D Q := vc_ok (cuts := [6, 35, 49, 83, 120, 150, 183]) 600 6 _ _ _ _ h
set_option maxRecDepth 100000 in
theorem b94_35 {S : (Nat → Int32) × Nat} {t : qT} {D : qD} {Q : Int → qT → qD → Prop} {l1 l3 : Int} {o4 : Option qV} (h :
chk ((t.1 (t.2.1 0 5)).1 = 3)
(chk (qR l3)
  (chk (qR (D (t.2.1 0 5) 7))
    (if l3 < (D (t.2.1 0 5) 7) then
      (wp S 94 49 [some (qs 0), some (ql l1), none, some (qi l3), some (qi 0)] [] t D Q)
      else
      (wp S 94 83 [some (qs 0), some (ql l1), none, some (qi 0), o4] [] t D Q))))) : wp S 94 35 [some (qs 0), some (ql l1), none, some (qi l3), o4] [] t D Q := vc_ok (cuts := [6, 35, 49, 83, 120, 150, 183]) 600 35 _ _ _ _ h
set_option maxRecDepth 100000 in
theorem b94_49 {S : (Nat → Int32) × Nat} {t : qT} {D : qD} {Q : Int → qT → qD → Prop} {l1 l3 l4 : Int} (h :
chk (qR l4)
(if l4 < 12 then
  (wp S 75 0 [some (qs 0), some (qi l3), some (qi l4), none] [] t D (fun x1 t1 D1 =>
      (chk (qR x1)
        (wp S 97 0 [some (ql l1), none, some (ql x1), none] [] t1 D1 (fun x2 t2 D2 =>
            (wp S 94 49 [some (qs 0), some (ql x2), none, some (qi l3), some (qi (l4 + 1))] [] t2 D2 Q))))))
  else
  (wp S 94 35 [some (qs 0), some (ql l1), none, some (qi (l3 + 1)), some (qi l4)] [] t D Q))) : wp S 94 49 [some (qs 0), some (ql l1), none, some (qi l3), some (qi l4)] [] t D Q := vc_ok (cuts := [6, 35, 49, 83, 120, 150, 183]) 600 49 _ _ _ _ h
set_option maxRecDepth 100000 in
theorem b94_83 {S : (Nat → Int32) × Nat} {t : qT} {D : qD} {Q : Int → qT → qD → Prop} {l1 l3 : Int} {o4 : Option qV} (h :
chk (qR l3)
(if l3 < 4 then
  (wp S 76 0 [some (qs 0), some (qi l3)] [] t D (fun x1 t1 D1 =>
      (chk (qR x1)
        (wp S 97 0 [some (ql l1), none, some (ql x1), none] [] t1 D1 (fun x2 t2 D2 =>
            (wp S 94 83 [some (qs 0), some (ql x2), none, some (qi (l3 + 1)), o4] [] t2 D2 Q))))))
  else
  (wp S 98 0 [some (qs 0)] [] t D (fun x3 t3 D3 =>
      (chk (qR x3)
        (if x3 = 0 then
          (wp S 94 120 [some (qs 0), some (ql l1), none, some (qi (-1)), o4] [] t3 D3 Q)
          else
          (wp S 96 0 [some (qs 0), some (ql l1), none, none, none, none, none] [] t3 D3 (fun x4 t4 D4 =>
              (wp S 94 120 [some (qs 0), some (ql x4), none, some (qi (-1)), o4] [] t4 D4 Q))))))))) : wp S 94 83 [some (qs 0), some (ql l1), none, some (qi l3), o4] [] t D Q := vc_ok (cuts := [6, 35, 49, 83, 120, 150, 183]) 600 83 _ _ _ _ h
set_option maxRecDepth 100000 in
theorem b94_120 {S : (Nat → Int32) × Nat} {t : qT} {D : qD} {Q : Int → qT → qD → Prop} {l1 l3 : Int} {o4 : Option qV} (h :
chk ((t.1 (t.2.1 0 5)).1 = 3)
(chk (qR l3)
  (chk (qR (D (t.2.1 0 5) 8))
    (if l3 < (D (t.2.1 0 5) 8) then
      (wp S 86 0 [some (qs 0), some (qi l3)] [] t D (fun x1 t1 D1 =>
          (chk (qR x1)
            (wp S 97 0 [some (ql l1), none, some (ql x1), none] [] t1 D1 (fun x2 t2 D2 =>
                (wp S 94 120 [some (qs 0), some (ql x2), none, some (qi (l3 + 1)), o4] [] t2 D2 Q))))))
      else
      (wp S 94 150 [some (qs 0), some (ql l1), none, some (qi 0), o4] [] t D Q))))) : wp S 94 120 [some (qs 0), some (ql l1), none, some (qi l3), o4] [] t D Q := vc_ok (cuts := [6, 35, 49, 83, 120, 150, 183]) 600 120 _ _ _ _ h
set_option maxRecDepth 100000 in
theorem b94_150 {S : (Nat → Int32) × Nat} {t : qT} {D : qD} {Q : Int → qT → qD → Prop} {l1 l3 : Int} {o4 : Option qV} (h :
chk (qR l3)
(chk (qR (D 1 1))
  (if l3 < (D 1 1) then
    (wp S 41 0 [some (qs 1), some (qi l3)] [] t D (fun x1 t1 D1 =>
        (chk (qR x1)
          (wp S 97 0 [some (ql l1), none, some (ql x1), none] [] t1 D1 (fun x2 t2 D2 =>
              (wp S 94 150 [some (qs 0), some (ql x2), none, some (qi (l3 + 1)), o4] [] t2 D2 Q))))))
    else
    (wp S 94 183 [some (qs 0), some (ql l1), none, some (qi 0), o4] [] t D Q)))) : wp S 94 150 [some (qs 0), some (ql l1), none, some (qi l3), o4] [] t D Q := vc_ok (cuts := [6, 35, 49, 83, 120, 150, 183]) 600 150 _ _ _ _ h
set_option maxRecDepth 100000 in
theorem b94_183 {S : (Nat → Int32) × Nat} {t : qT} {D : qD} {Q : Int → qT → qD → Prop} {l1 l3 : Int} {o4 : Option qV} (h :
chk (qR l3)
(if l3 < 8 then
  (wp S 93 0 [some (qs 0), some (qi l3)] [] t D (fun x1 t1 D1 =>
      (chk (qR x1)
        (wp S 97 0 [some (ql l1), none, some (ql x1), none] [] t1 D1 (fun x2 t2 D2 =>
            (wp S 94 183 [some (qs 0), some (ql x2), none, some (qi (l3 + 1)), o4] [] t2 D2 Q))))))
  else
  (Q l1 t D))) : wp S 94 183 [some (qs 0), some (ql l1), none, some (qi l3), o4] [] t D Q := vc_ok (cuts := [6, 35, 49, 83, 120, 150, 183]) 600 183 _ _ _ _ h
/-! 95 X8_digestFunction -/
set_option maxRecDepth 100000 in
theorem b95_0 {S : (Nat → Int32) × Nat} {t : qT} {D : qD} {Q : Int → qT → qD → Prop} {l1 l3 : Int} (h :
wp S 95 6 [some (qs 0), some (ql l1), none, some (qi l3), some (ql l1), none, some (qi 0), none] [] t D Q) : wp S 95 0 [some (qs 0), some (ql l1), none, some (qi l3), none, none, none, none] [] t D Q := vc_ok (cuts := [6, 16, 55, 74]) 600 0 _ _ _ _ h
set_option maxRecDepth 100000 in
theorem b95_6 {S : (Nat → Int32) × Nat} {t : qT} {D : qD} {Q : Int → qT → qD → Prop} {l1 l3 l4 l6 : Int} {o7 : Option qV} (h :
chk (qR l6)
(if l6 < 10 then
  (wp S 95 16 [some (qs 0), some (ql l1), none, some (qi l3), some (ql l4), none, some (qi l6), some (qi 0)] [] t D Q)
  else
  (wp S 95 55 [some (qs 0), some (ql l1), none, some (qi l3), some (ql l4), none, some (qi 0), o7] [] t D Q))) : wp S 95 6 [some (qs 0), some (ql l1), none, some (qi l3), some (ql l4), none, some (qi l6), o7] [] t D Q := vc_ok (cuts := [6, 16, 55, 74]) 600 6 _ _ _ _ h
set_option maxRecDepth 100000 in
theorem b95_16 {S : (Nat → Int32) × Nat} {t : qT} {D : qD} {Q : Int → qT → qD → Prop} {l1 l3 l4 l6 l7 : Int} (h :
chk (qR l7)
(if l7 < 6 then
  (wp S 72 0 [some (qs 0), some (qi l3), some (qi l6), some (qi l7)] [] t D (fun x1 t1 D1 =>
      (chk (qR x1)
        (wp S 97 0 [some (ql l4), none, some (ql x1), none] [] t1 D1 (fun x2 t2 D2 =>
            (wp S 95 16 [some (qs 0), some (ql l1), none, some (qi l3), some (ql x2), none, some (qi l6), some (qi (l7 + 1))] [] t2 D2 Q))))))
  else
  (wp S 95 6 [some (qs 0), some (ql l1), none, some (qi l3), some (ql l4), none, some (qi (l6 + 1)), some (qi l7)] [] t D Q))) : wp S 95 16 [some (qs 0), some (ql l1), none, some (qi l3), some (ql l4), none, some (qi l6), some (qi l7)] [] t D Q := vc_ok (cuts := [6, 16, 55, 74]) 600 16 _ _ _ _ h
set_option maxRecDepth 100000 in
theorem b95_55 {S : (Nat → Int32) × Nat} {t : qT} {D : qD} {Q : Int → qT → qD → Prop} {l1 l3 l4 l6 : Int} {o7 : Option qV} (h :
chk ((t.1 (t.2.1 0 5)).1 = 3)
(chk ((t.1 (t.2.1 (t.2.1 0 5) 0)).1 = 0)
  (wp S 3 0 [some (qr (t.2.1 (t.2.1 0 5) 0)), some (qi l3)] [] t D (fun x1 t1 D1 =>
      (chk (qR l6)
        (chk (qR x1)
          (if l6 < x1 then
            (wp S 95 74 [some (qs 0), some (ql l1), none, some (qi l3), some (ql l4), none, some (qi l6), some (qi 0)] [] t1 D1 Q)
            else
            (Q l4 t1 D1)))))))) : wp S 95 55 [some (qs 0), some (ql l1), none, some (qi l3), some (ql l4), none, some (qi l6), o7] [] t D Q := vc_ok (cuts := [6, 16, 55, 74]) 600 55 _ _ _ _ h
set_option maxRecDepth 100000 in
theorem b95_74 {S : (Nat → Int32) × Nat} {t : qT} {D : qD} {Q : Int → qT → qD → Prop} {l1 l3 l4 l6 l7 : Int} (h :
chk (qR l7)
(if l7 < 7 then
  (wp S 73 0 [some (qs 0), some (qi l3), some (qi l6), some (qi l7), none, none] [] t D (fun x1 t1 D1 =>
      (chk (qR x1)
        (wp S 97 0 [some (ql l4), none, some (ql x1), none] [] t1 D1 (fun x2 t2 D2 =>
            (wp S 95 74 [some (qs 0), some (ql l1), none, some (qi l3), some (ql x2), none, some (qi l6), some (qi (l7 + 1))] [] t2 D2 Q))))))
  else
  (wp S 95 55 [some (qs 0), some (ql l1), none, some (qi l3), some (ql l4), none, some (qi (l6 + 1)), some (qi l7)] [] t D Q))) : wp S 95 74 [some (qs 0), some (ql l1), none, some (qi l3), some (ql l4), none, some (qi l6), some (qi l7)] [] t D Q := vc_ok (cuts := [6, 16, 55, 74]) 600 74 _ _ _ _ h
/-! 96 X8_digestThrowing -/
set_option maxRecDepth 100000 in
theorem b96_0 {S : (Nat → Int32) × Nat} {t : qT} {D : qD} {Q : Int → qT → qD → Prop} {l1 : Int} (h :
wp S 96 5 [some (qs 0), some (ql l1), none, some (ql l1), none, some (qi 0), none] [] t D Q) : wp S 96 0 [some (qs 0), some (ql l1), none, none, none, none, none] [] t D Q := vc_ok (cuts := [5, 14]) 600 0 _ _ _ _ h
set_option maxRecDepth 100000 in
theorem b96_5 {S : (Nat → Int32) × Nat} {t : qT} {D : qD} {Q : Int → qT → qD → Prop} {l1 l3 l5 : Int} {o6 : Option qV} (h :
chk (qR l5)
(if l5 < 5 then
  (wp S 96 14 [some (qs 0), some (ql l1), none, some (ql l3), none, some (qi l5), some (qi 0)] [] t D Q)
  else
  (wp S 85 0 [some (qs 0), none, none] [] t D (fun x1 t1 D1 =>
      (chk (qR x1)
        (wp S 97 0 [some (ql l3), none, some (ql x1), none] [] t1 D1 (fun x2 t2 D2 =>
            (Q x2 t2 D2)))))))) : wp S 96 5 [some (qs 0), some (ql l1), none, some (ql l3), none, some (qi l5), o6] [] t D Q := vc_ok (cuts := [5, 14]) 600 5 _ _ _ _ h
set_option maxRecDepth 100000 in
theorem b96_14 {S : (Nat → Int32) × Nat} {t : qT} {D : qD} {Q : Int → qT → qD → Prop} {l1 l3 l5 l6 : Int} (h :
chk (qR l6)
(if l6 < 3 then
  (wp S 84 0 [some (qs 0), some (qi l5), some (qi l6), none] [] t D (fun x1 t1 D1 =>
      (chk (qR x1)
        (wp S 97 0 [some (ql l3), none, some (ql x1), none] [] t1 D1 (fun x2 t2 D2 =>
            (wp S 96 14 [some (qs 0), some (ql l1), none, some (ql x2), none, some (qi l5), some (qi (l6 + 1))] [] t2 D2 Q))))))
  else
  (wp S 96 5 [some (qs 0), some (ql l1), none, some (ql l3), none, some (qi (l5 + 1)), some (qi l6)] [] t D Q))) : wp S 96 14 [some (qs 0), some (ql l1), none, some (ql l3), none, some (qi l5), some (qi l6)] [] t D Q := vc_ok (cuts := [5, 14]) 600 14 _ _ _ _ h
/-! 97 X8_folded -/
set_option maxRecDepth 100000 in
theorem b97_0 {S : (Nat → Int32) × Nat} {t : qT} {D : qD} {Q : Int → qT → qD → Prop} {l0 l2 : Int} (h :
Q ((31 * l0) + l2) t D) : wp S 97 0 [some (ql l0), none, some (ql l2), none] [] t D Q := vc_ok (cuts := []) 600 0 _ _ _ _ h
/-! 98 X8_hasText -/
set_option maxRecDepth 100000 in
theorem b98_0 {S : (Nat → Int32) × Nat} {t : qT} {D : qD} {Q : Int → qT → qD → Prop} (h :
chk ((t.1 (t.2.1 0 5)).1 = 3)
(chk ((t.1 (t.2.1 (t.2.1 0 5) 0)).1 = 0)
  (chk (qR (D (t.2.1 (t.2.1 0 5) 0) 0))
    (if 0 < (D (t.2.1 (t.2.1 0 5) 0) 0) then
      (Q 1 t D)
      else
      (Q 0 t D))))) : wp S 98 0 [some (qs 0)] [] t D Q := vc_ok (cuts := []) 600 0 _ _ _ _ h
/-! 99 X8_isFunction -/
set_option maxRecDepth 100000 in
theorem b99_0 {S : (Nat → Int32) × Nat} {t : qT} {D : qD} {Q : Int → qT → qD → Prop} {l1 : Int} (h :
chk ((t.1 (t.2.1 0 5)).1 = 3)
(chk ((t.1 (t.2.1 (t.2.1 0 5) 0)).1 = 0)
  (wp S 102 0 [some (qi l1), some (qi (D (t.2.1 (t.2.1 0 5) 0) 0))] [] t D (fun x1 t1 D1 =>
      (chk (x1 = 0 ∨ x1 = 1)
        (Q x1 t1 D1)))))) : wp S 99 0 [some (qs 0), some (qi l1)] [] t D Q := vc_ok (cuts := []) 600 0 _ _ _ _ h
/-! 100 X8_isPad -/
set_option maxRecDepth 100000 in
theorem b100_0 {S : (Nat → Int32) × Nat} {t : qT} {D : qD} {Q : Int → qT → qD → Prop} {l1 l2 : Int} (h :
wp S 99 0 [some (qs 0), some (qi l1)] [] t D (fun x1 t1 D1 =>
  (chk (qR x1)
    (if x1 = 0 then
      (Q 0 t1 D1)
      else
      (chk ((t1.1 (t1.2.1 0 5)).1 = 3)
        (chk ((t1.1 (t1.2.1 (t1.2.1 0 5) 0)).1 = 0)
          (wp S 3 0 [some (qr (t1.2.1 (t1.2.1 0 5) 0)), some (qi l1)] [] t1 D1 (fun x2 t2 D2 =>
              (wp S 102 0 [some (qi l2), some (qi x2)] [] t2 D2 (fun x3 t3 D3 =>
                  (chk (qR x3)
                    (if x3 = 0 then
                      (Q 0 t3 D3)
                      else
                      (Q 1 t3 D3))))))))))))) : wp S 100 0 [some (qs 0), some (qi l1), some (qi l2)] [] t D Q := vc_ok (cuts := []) 600 0 _ _ _ _ h
/-! 101 X8_beginDoing -/
set_option maxRecDepth 100000 in
theorem b101_0 {S : (Nat → Int32) × Nat} {t : qT} {D : qD} {Q : Int → qT → qD → Prop} (h :
wp S 21 0 [some (qs 3), some (qr (t.2.1 0 5))] [] t D (fun _ t1 D1 =>
  (chk (((nwT t1.1 t1.2.2.1 (3, 0)) t1.2.2.1).1 ≠ 8)
    (wp S 25 0 [some (qr t1.2.2.1), some (qr ((nwP t1.2.1 t1.2.2.1) 0 5))] [] ((nwT t1.1 t1.2.2.1 (3, 0)), (nwP t1.2.1 t1.2.2.1), ((t1.2.2.1 + 1), (t1.2.2.2 + 9))) (upr D1 t1.2.2.1 (fun _ => 0)) (fun _ t2 D2 =>
        (Q 0 (t2.1, (upP t2.2.1 0 5 t1.2.2.1), t2.2.2) D2)))))) : wp S 101 0 [some (qs 0)] [] t D Q := vc_ok (cuts := []) 600 0 _ _ _ _ h
/-! 102 X8_isBelow -/
set_option maxRecDepth 100000 in
theorem b102_0 {S : (Nat → Int32) × Nat} {t : qT} {D : qD} {Q : Int → qT → qD → Prop} {l0 l1 : Int} (h :
chk (qR l0)
(if l0 < 0 then
  (Q 0 t D)
  else
  (chk (qR l0)
    (chk (qR l1)
      (if l0 < l1 then
        (Q 1 t D)
        else
        (Q 0 t D)))))) : wp S 102 0 [some (qi l0), some (qi l1)] [] t D Q := vc_ok (cuts := []) 600 0 _ _ _ _ h
/-! 103 X8_slot -/
set_option maxRecDepth 100000 in
theorem b103_0 {S : (Nat → Int32) × Nat} {t : qT} {D : qD} {Q : Int → qT → qD → Prop} {l0 l1 : Int} (h :
Q ((l0 * 3) + l1) t D) : wp S 103 0 [some (qi l0), some (qi l1)] [] t D Q := vc_ok (cuts := []) 600 0 _ _ _ _ h
/-! 104 X8_kindOfLetter -/
set_option maxRecDepth 100000 in
theorem b104_0 {S : (Nat → Int32) × Nat} {t : qT} {D : qD} {Q : Int → qT → qD → Prop} {l0 : Int} (h :
chk (qR l0)
(if l0 = 97 then
  (Q 1 t D)
  else
  (if l0 = 99 then
    (Q 0 t D)
    else
    (if l0 = 102 then
      (Q 2 t D)
      else
      (if l0 = 103 then
        (Q 4 t D)
        else
        (if l0 = 117 then
          (Q 3 t D)
          else
          (Q (-1) t D))))))) : wp S 104 0 [some (qi l0)] [] t D Q := vc_ok (cuts := []) 600 0 _ _ _ _ h
/-! 105 X8_isOfKind -/
set_option maxRecDepth 100000 in
theorem b105_0 {S : (Nat → Int32) × Nat} {t : qT} {D : qD} {Q : Int → qT → qD → Prop} {l0 l1 : Int} (h :
chk (qR l1)
(if l1 = 0 then
  (Q 1 t D)
  else
  (chk (qR l0)
    (chk (qR l1)
      (if l0 = l1 then
        (Q 1 t D)
        else
        (chk (qR l0)
          (if l0 = 4 then
            (chk (qR l1)
              (if l1 = 2 then
                (Q 1 t D)
                else
                (Q 0 t D)))
            else
            (Q 0 t D)))))))) : wp S 105 0 [some (qi l0), some (qi l1)] [] t D Q := vc_ok (cuts := []) 600 0 _ _ _ _ h
/-! 106 X8_deedOf -/
set_option maxRecDepth 100000 in
theorem b106_0 {S : (Nat → Int32) × Nat} {t : qT} {D : qD} {Q : Int → qT → qD → Prop} {l0 l1 l2 : Int} (h :
chk (qR l0)
(if l0 = 0 then
  (chk (qR l2)
    (chk (qR l1)
      (if l2 = l1 then
        (Q 1 t D)
        else
        (Q 0 t D))))
  else
  (if l0 = 1 then
    (Q 1 t D)
    else
    (if l0 = 2 then
      (Q 2 t D)
      else
      (if l0 = 3 then
        (chk (qR l2)
          (chk (qR l1)
            (if l2 < l1 then
              (Q 0 t D)
              else
              (Q 1 t D))))
        else
        (chk (qR l2)
          (chk (qR l1)
            (if l2 = l1 then
              (Q 1 t D)
              else
              (Q 2 t D))))))))) : wp S 106 0 [some (qi l0), some (qi l1), some (qi l2)] [] t D Q := vc_ok (cuts := []) 600 0 _ _ _ _ h
/-! 107 X8_bestToThrow -/
set_option maxRecDepth 100000 in
theorem b107_0 {S : (Nat → Int32) × Nat} {t : qT} {D : qD} {Q : Int → qT → qD → Prop} {l0 l1 : Int} (h :
wp S 107 8 [some (qi l0), some (qi l1), some (qi (-1)), some (qi 6), some (qi 0), none] [] t D Q) : wp S 107 0 [some (qi l0), some (qi l1), none, none, none, none] [] t D Q := vc_ok (cuts := [8]) 600 0 _ _ _ _ h
set_option maxRecDepth 100000 in
theorem b107_8 {S : (Nat → Int32) × Nat} {t : qT} {D : qD} {Q : Int → qT → qD → Prop} {l0 l1 l2 l3 l4 : Int} {o5 : Option qV} (h :
chk (qR l4)
(if l4 < 5 then
  (chk (qR l0)
    (if l0 = 0 then
      (Q l2 t D)
      else
      (wp S 108 0 [some (qi l0), some (qi l1), some (qi l4), none, none, none, none] [] t D (fun x1 t1 D1 =>
          (chk (qR x1)
            (chk (qR l3)
              (if x1 < l3 then
                (wp S 107 8 [some (qi l0), some (qi l1), some (qi l4), some (qi x1), some (qi (l4 + 1)), some (qi x1)] [] t1 D1 Q)
                else
                (wp S 107 8 [some (qi l0), some (qi l1), some (qi l2), some (qi l3), some (qi (l4 + 1)), some (qi x1)] [] t1 D1 Q))))))))
  else
  (Q l2 t D))) : wp S 107 8 [some (qi l0), some (qi l1), some (qi l2), some (qi l3), some (qi l4), o5] [] t D Q := vc_ok (cuts := [8]) 600 8 _ _ _ _ h
/-! 108 X8_leftAtWorst -/
set_option maxRecDepth 100000 in
theorem b108_0 {S : (Nat → Int32) × Nat} {t : qT} {D : qD} {Q : Int → qT → qD → Prop} {l0 l1 l2 : Int} (h :
wp S 108 5 [some (qi l0), some (qi l1), some (qi l2), some (qi 0), some (qi 0), none, none] [] t D Q) : wp S 108 0 [some (qi l0), some (qi l1), some (qi l2), none, none, none, none] [] t D Q := vc_ok (cuts := [5, 17]) 600 0 _ _ _ _ h
set_option maxRecDepth 100000 in
theorem b108_5 {S : (Nat → Int32) × Nat} {t : qT} {D : qD} {Q : Int → qT → qD → Prop} {l0 l1 l2 l3 l4 : Int} {o5 o6 : Option qV} (h :
chk (qR l4)
(if l4 < 3 then
  (wp S 108 17 [some (qi l0), some (qi l1), some (qi l2), some (qi l3), some (qi l4), some (qi 0), some (qi 0)] [] t D Q)
  else
  (Q l3 t D))) : wp S 108 5 [some (qi l0), some (qi l1), some (qi l2), some (qi l3), some (qi l4), o5, o6] [] t D Q := vc_ok (cuts := [5, 17]) 600 5 _ _ _ _ h
set_option maxRecDepth 100000 in
theorem b108_17 {S : (Nat → Int32) × Nat} {t : qT} {D : qD} {Q : Int → qT → qD → Prop} {l0 l1 l2 l3 l4 l5 l6 : Int} (h :
chk (qR l6)
(if l6 < 5 then
  (chk (qR (qand (qshr l0 l6) 1))
    (if (qand (qshr l0 l6) 1) = 1 then
      (wp S 106 0 [some (qi l6), some (qi l1), some (qi l2)] [] t D (fun x1 t1 D1 =>
          (chk (qR x1)
            (chk (qR l4)
              (if x1 = l4 then
                (wp S 108 17 [some (qi l0), some (qi l1), some (qi l2), some (qi l3), some (qi l4), some (qi (l5 + 1)), some (qi (l6 + 1))] [] t1 D1 Q)
                else
                (wp S 108 17 [some (qi l0), some (qi l1), some (qi l2), some (qi l3), some (qi l4), some (qi l5), some (qi (l6 + 1))] [] t1 D1 Q))))))
      else
      (wp S 108 17 [some (qi l0), some (qi l1), some (qi l2), some (qi l3), some (qi l4), some (qi l5), some (qi (l6 + 1))] [] t D Q)))
  else
  (chk (qR l3)
    (chk (qR l5)
      (wp S 108 5 [some (qi l0), some (qi l1), some (qi l2), some (qi (qmax l3 l5)), some (qi (l4 + 1)), some (qi l5), some (qi l6)] [] t D Q))))) : wp S 108 17 [some (qi l0), some (qi l1), some (qi l2), some (qi l3), some (qi l4), some (qi l5), some (qi l6)] [] t D Q := vc_ok (cuts := [5, 17]) 600 17 _ _ _ _ h
end
section
/-! blocks, written by wip/whole/mkblk.py: what each stretch of a method asks -/
/-! 110 X9_in -/
set_option maxRecDepth 100000 in
theorem b110_0 {S : (Nat → Int32) × Nat} {t : qT} {D : qD} {Q : Int → qT → qD → Prop} {l0 l2 l4 : Int} (h :
chk (l0 = l2 ∨ (qR64 l0 ∧ qR64 l2))
(chk (qR (qcmp l0 l2))
  (if (qcmp l0 l2) < 0 then
    (Q 0 t D)
    else
    (chk (l0 = l4 ∨ (qR64 l0 ∧ qR64 l4))
      (chk (qR (qcmp l0 l4))
        (if 0 < (qcmp l0 l4) then
          (Q 0 t D)
          else
          (Q 1 t D))))))) : wp S 110 0 [some (ql l0), none, some (ql l2), none, some (ql l4), none] [] t D Q := vc_ok (cuts := []) 600 0 _ _ _ _ h
/-! 111 X9_letter -/
set_option maxRecDepth 100000 in
theorem b111_0 {S : (Nat → Int32) × Nat} {t : qT} {D : qD} {Q : Int → qT → qD → Prop} {l1 : Int} (h :
chk (qR l1)
(wp S 110 0 [some (ql l1), none, some (ql 1), none, some (ql 126), none] [] t D (fun x1 t1 D1 =>
    (chk (qR x1)
      (if x1 = 0 then
        (Q (-102) t1 D1)
        else
        (chk (qR (D1 28 1))
          (if (D1 28 1) = 100 then
            (Q (-104) t1 D1)
            else
            (chk (0 ≤ (D1 28 1) ∧ (D1 28 1) < 100)
              (Q (((up D1 29 (D1 28 1) l1) 28 1) + 1) t1 (up (up D1 29 (D1 28 1) l1) 28 1 (((up D1 29 (D1 28 1) l1) 28 1) + 1))))))))))) : wp S 111 0 [some (qs 28), some (qi l1)] [] t D Q := vc_ok (cuts := []) 600 0 _ _ _ _ h
/-! 112 X9_blank -/
set_option maxRecDepth 100000 in
theorem b112_0 {S : (Nat → Int32) × Nat} {t : qT} {D : qD} {Q : Int → qT → qD → Prop} (h :
Q (D 28 1) t (up D 28 1 0)) : wp S 112 0 [some (qs 28), none] [] t D Q := vc_ok (cuts := []) 600 0 _ _ _ _ h
/-! 113 X9_kindBy -/
set_option maxRecDepth 100000 in
theorem b113_0 {S : (Nat → Int32) × Nat} {t : qT} {D : qD} {Q : Int → qT → qD → Prop} {l0 : Int} (h :
chk (qR l0)
(if l0 = 97 then
  (Q 1 t D)
  else
  (if l0 = 99 then
    (Q 0 t D)
    else
    (if l0 = 102 then
      (Q 2 t D)
      else
      (if l0 = 103 then
        (Q 4 t D)
        else
        (if l0 = 117 then
          (Q 3 t D)
          else
          (Q (-1) t D))))))) : wp S 113 0 [some (qi l0)] [] t D Q := vc_ok (cuts := []) 600 0 _ _ _ _ h
/-! 114 X9_beginFunction -/
set_option maxRecDepth 100000 in
theorem b114_0 {S : (Nat → Int32) × Nat} {t : qT} {D : qD} {Q : Int → qT → qD → Prop} (h :
Q 0 t (up (up (up (up (up (up D 28 3 0) 28 4 0) 28 5 0) 28 6 0) 28 8 0) 28 9 0)) : wp S 114 0 [some (qs 28)] [] t D Q := vc_ok (cuts := []) 600 0 _ _ _ _ h
/-! 115 X9_digitsOf -/
set_option maxRecDepth 100000 in
theorem b115_0 {S : (Nat → Int32) × Nat} {t : qT} {D : qD} {Q : Int → qT → qD → Prop} {l0 : Int} (h :
chk (qR l0)
(if l0 = 115 then
  (Q 2 t D)
  else
  (chk (qR l0)
    (if l0 = 43 then
      (Q 1 t D)
      else
      (chk (qR l0)
        (if l0 = 117 then
          (Q 1 t D)
          else
          (Q 0 t D))))))) : wp S 115 0 [some (qi l0)] [] t D Q := vc_ok (cuts := []) 600 0 _ _ _ _ h
/-! 116 X9_endOp -/
set_option maxRecDepth 100000 in
theorem b116_0 {S : (Nat → Int32) × Nat} {t : qT} {D : qD} {Q : Int → qT → qD → Prop} (h :
wp S 115 0 [some (qi (D 28 7))] [] t D (fun x1 t1 D1 =>
  (chk (qR (D 28 6))
    (chk (qR x1)
      (if x1 < (D 28 6) then
        (chk (0 ≤ (D1 28 2) ∧ (D1 28 2) < 3)
          (Q 0 t1 (up (up (up D1 28 6 0) 28 3 ((D1 28 3) + 1)) 30 (D1 28 2) ((D1 28 3) + 1))))
        else
        (Q 0 t1 D1)))))) : wp S 116 0 [some (qs 28)] [] t D Q := vc_ok (cuts := []) 600 0 _ _ _ _ h
/-! 117 X9_isOpBegun -/
set_option maxRecDepth 100000 in
theorem b117_0 {S : (Nat → Int32) × Nat} {t : qT} {D : qD} {Q : Int → qT → qD → Prop} {l1 : Int} (h :
chk (qR l1)
(if l1 = 59 then
  (Q 1 t (up D 28 5 1))
  else
  (chk (qR l1)
    (if l1 = 43 then
      (chk (qR (D 28 3))
        (if (D 28 3) = 8 then
          (Q 0 t D)
          else
          (chk (qR l1)
            (if l1 = 109 then
              (chk (0 ≤ ((24 * (D 28 2)) + (3 * (D 28 3))) ∧ ((24 * (D 28 2)) + (3 * (D 28 3))) < 72)
                (wp S 116 0 [some (qs 28)] [] t (up (up (up (up D 28 9 ((D 28 9) + 1)) 28 7 l1) 32 ((24 * (D 28 2)) + (3 * (D 28 3))) l1) 28 6 1) (fun _ t1 D1 =>
                    (Q 1 t1 D1))))
              else
              (chk (qR l1)
                (if l1 = 98 then
                  (chk (0 ≤ ((24 * (D 28 2)) + (3 * (D 28 3))) ∧ ((24 * (D 28 2)) + (3 * (D 28 3))) < 72)
                    (wp S 116 0 [some (qs 28)] [] t (up (up (up (up D 28 9 ((D 28 9) + (-1))) 28 7 l1) 32 ((24 * (D 28 2)) + (3 * (D 28 3))) l1) 28 6 1) (fun _ t2 D2 =>
                        (Q 1 t2 D2))))
                  else
                  (chk (0 ≤ ((24 * (D 28 2)) + (3 * (D 28 3))) ∧ ((24 * (D 28 2)) + (3 * (D 28 3))) < 72)
                    (wp S 116 0 [some (qs 28)] [] t (up (up (up (up D 28 9 ((D 28 9) + 0)) 28 7 l1) 32 ((24 * (D 28 2)) + (3 * (D 28 3))) l1) 28 6 1) (fun _ t3 D3 =>
                        (Q 1 t3 D3))))))))))
      else
      (chk (qR l1)
        (if l1 = 115 then
          (chk (qR (D 28 3))
            (if (D 28 3) = 8 then
              (Q 0 t D)
              else
              (chk (qR l1)
                (if l1 = 109 then
                  (chk (0 ≤ ((24 * (D 28 2)) + (3 * (D 28 3))) ∧ ((24 * (D 28 2)) + (3 * (D 28 3))) < 72)
                    (wp S 116 0 [some (qs 28)] [] t (up (up (up (up D 28 9 ((D 28 9) + 1)) 28 7 l1) 32 ((24 * (D 28 2)) + (3 * (D 28 3))) l1) 28 6 1) (fun _ t4 D4 =>
                        (Q 1 t4 D4))))
                  else
                  (chk (qR l1)
                    (if l1 = 98 then
                      (chk (0 ≤ ((24 * (D 28 2)) + (3 * (D 28 3))) ∧ ((24 * (D 28 2)) + (3 * (D 28 3))) < 72)
                        (wp S 116 0 [some (qs 28)] [] t (up (up (up (up D 28 9 ((D 28 9) + (-1))) 28 7 l1) 32 ((24 * (D 28 2)) + (3 * (D 28 3))) l1) 28 6 1) (fun _ t5 D5 =>
                        (Q 1 t5 D5))))
                      else
                      (chk (0 ≤ ((24 * (D 28 2)) + (3 * (D 28 3))) ∧ ((24 * (D 28 2)) + (3 * (D 28 3))) < 72)
                        (wp S 116 0 [some (qs 28)] [] t (up (up (up (up D 28 9 ((D 28 9) + 0)) 28 7 l1) 32 ((24 * (D 28 2)) + (3 * (D 28 3))) l1) 28 6 1) (fun _ t6 D6 =>
                        (Q 1 t6 D6))))))))))
          else
          (chk (qR l1)
            (if l1 = 117 then
              (chk (qR (D 28 3))
                (if (D 28 3) = 8 then
                  (Q 0 t D)
                  else
                  (chk (qR l1)
                    (if l1 = 109 then
                      (chk (0 ≤ ((24 * (D 28 2)) + (3 * (D 28 3))) ∧ ((24 * (D 28 2)) + (3 * (D 28 3))) < 72)
                        (wp S 116 0 [some (qs 28)] [] t (up (up (up (up D 28 9 ((D 28 9) + 1)) 28 7 l1) 32 ((24 * (D 28 2)) + (3 * (D 28 3))) l1) 28 6 1) (fun _ t7 D7 =>
                        (Q 1 t7 D7))))
                      else
                      (chk (qR l1)
                        (if l1 = 98 then
                        (chk (0 ≤ ((24 * (D 28 2)) + (3 * (D 28 3))) ∧ ((24 * (D 28 2)) + (3 * (D 28 3))) < 72)
                        (wp S 116 0 [some (qs 28)] [] t (up (up (up (up D 28 9 ((D 28 9) + (-1))) 28 7 l1) 32 ((24 * (D 28 2)) + (3 * (D 28 3))) l1) 28 6 1) (fun _ t8 D8 =>
                        (Q 1 t8 D8))))
                        else
                        (chk (0 ≤ ((24 * (D 28 2)) + (3 * (D 28 3))) ∧ ((24 * (D 28 2)) + (3 * (D 28 3))) < 72)
                        (wp S 116 0 [some (qs 28)] [] t (up (up (up (up D 28 9 ((D 28 9) + 0)) 28 7 l1) 32 ((24 * (D 28 2)) + (3 * (D 28 3))) l1) 28 6 1) (fun _ t9 D9 =>
                        (Q 1 t9 D9))))))))))
              else
              (chk (qR l1)
                (if l1 = 109 then
                  (chk (qR (D 28 9))
                    (if (D 28 9) < 3 then
                      (chk (qR (D 28 3))
                        (if (D 28 3) = 8 then
                        (Q 0 t D)
                        else
                        (chk (qR l1)
                        (if l1 = 109 then
                        (chk (0 ≤ ((24 * (D 28 2)) + (3 * (D 28 3))) ∧ ((24 * (D 28 2)) + (3 * (D 28 3))) < 72)
                        (wp S 116 0 [some (qs 28)] [] t (up (up (up (up D 28 9 ((D 28 9) + 1)) 28 7 l1) 32 ((24 * (D 28 2)) + (3 * (D 28 3))) l1) 28 6 1) (fun _ t10 D10 =>
                        (Q 1 t10 D10))))
                        else
                        (chk (qR l1)
                        (if l1 = 98 then
                        (chk (0 ≤ ((24 * (D 28 2)) + (3 * (D 28 3))) ∧ ((24 * (D 28 2)) + (3 * (D 28 3))) < 72)
                        (wp S 116 0 [some (qs 28)] [] t (up (up (up (up D 28 9 ((D 28 9) + (-1))) 28 7 l1) 32 ((24 * (D 28 2)) + (3 * (D 28 3))) l1) 28 6 1) (fun _ t11 D11 =>
                        (Q 1 t11 D11))))
                        else
                        (chk (0 ≤ ((24 * (D 28 2)) + (3 * (D 28 3))) ∧ ((24 * (D 28 2)) + (3 * (D 28 3))) < 72)
                        (wp S 116 0 [some (qs 28)] [] t (up (up (up (up D 28 9 ((D 28 9) + 0)) 28 7 l1) 32 ((24 * (D 28 2)) + (3 * (D 28 3))) l1) 28 6 1) (fun _ t12 D12 =>
                        (Q 1 t12 D12))))))))))
                      else
                      (chk (qR l1)
                        (if l1 = 98 then
                        (chk (qR (D 28 9))
                        (if 0 < (D 28 9) then
                        (chk (qR (D 28 3))
                        (if (D 28 3) = 8 then
                        (Q 0 t D)
                        else
                        (chk (qR l1)
                        (if l1 = 109 then
                        (chk (0 ≤ ((24 * (D 28 2)) + (3 * (D 28 3))) ∧ ((24 * (D 28 2)) + (3 * (D 28 3))) < 72)
                        (wp S 116 0 [some (qs 28)] [] t (up (up (up (up D 28 9 ((D 28 9) + 1)) 28 7 l1) 32 ((24 * (D 28 2)) + (3 * (D 28 3))) l1) 28 6 1) (fun _ t13 D13 =>
                        (Q 1 t13 D13))))
                        else
                        (chk (qR l1)
                        (if l1 = 98 then
                        (chk (0 ≤ ((24 * (D 28 2)) + (3 * (D 28 3))) ∧ ((24 * (D 28 2)) + (3 * (D 28 3))) < 72)
                        (wp S 116 0 [some (qs 28)] [] t (up (up (up (up D 28 9 ((D 28 9) + (-1))) 28 7 l1) 32 ((24 * (D 28 2)) + (3 * (D 28 3))) l1) 28 6 1) (fun _ t14 D14 =>
                        (Q 1 t14 D14))))
                        else
                        (chk (0 ≤ ((24 * (D 28 2)) + (3 * (D 28 3))) ∧ ((24 * (D 28 2)) + (3 * (D 28 3))) < 72)
                        (wp S 116 0 [some (qs 28)] [] t (up (up (up (up D 28 9 ((D 28 9) + 0)) 28 7 l1) 32 ((24 * (D 28 2)) + (3 * (D 28 3))) l1) 28 6 1) (fun _ t15 D15 =>
                        (Q 1 t15 D15))))))))))
                        else
                        (Q 0 t D)))
                        else
                        (Q 0 t D)))))
                  else
                  (chk (qR l1)
                    (if l1 = 98 then
                      (chk (qR (D 28 9))
                        (if 0 < (D 28 9) then
                        (chk (qR (D 28 3))
                        (if (D 28 3) = 8 then
                        (Q 0 t D)
                        else
                        (chk (qR l1)
                        (if l1 = 109 then
                        (chk (0 ≤ ((24 * (D 28 2)) + (3 * (D 28 3))) ∧ ((24 * (D 28 2)) + (3 * (D 28 3))) < 72)
                        (wp S 116 0 [some (qs 28)] [] t (up (up (up (up D 28 9 ((D 28 9) + 1)) 28 7 l1) 32 ((24 * (D 28 2)) + (3 * (D 28 3))) l1) 28 6 1) (fun _ t16 D16 =>
                        (Q 1 t16 D16))))
                        else
                        (chk (qR l1)
                        (if l1 = 98 then
                        (chk (0 ≤ ((24 * (D 28 2)) + (3 * (D 28 3))) ∧ ((24 * (D 28 2)) + (3 * (D 28 3))) < 72)
                        (wp S 116 0 [some (qs 28)] [] t (up (up (up (up D 28 9 ((D 28 9) + (-1))) 28 7 l1) 32 ((24 * (D 28 2)) + (3 * (D 28 3))) l1) 28 6 1) (fun _ t17 D17 =>
                        (Q 1 t17 D17))))
                        else
                        (chk (0 ≤ ((24 * (D 28 2)) + (3 * (D 28 3))) ∧ ((24 * (D 28 2)) + (3 * (D 28 3))) < 72)
                        (wp S 116 0 [some (qs 28)] [] t (up (up (up (up D 28 9 ((D 28 9) + 0)) 28 7 l1) 32 ((24 * (D 28 2)) + (3 * (D 28 3))) l1) 28 6 1) (fun _ t18 D18 =>
                        (Q 1 t18 D18))))))))))
                        else
                        (Q 0 t D)))
                      else
                      (Q 0 t D))))))))))))) : wp S 117 0 [some (qs 28), some (qi l1), none] [] t D Q := vc_ok (cuts := []) 600 0 _ _ _ _ h
/-! 118 X9_isOpDigit -/
set_option maxRecDepth 100000 in
theorem b118_0 {S : (Nat → Int32) × Nat} {t : qT} {D : qD} {Q : Int → qT → qD → Prop} {l1 : Int} (h :
chk (qR (D 28 7))
(if (D 28 7) = 43 then
  (chk (qR l1)
    (wp S 110 0 [some (ql l1), none, some (ql 49), none, some (ql 57), none] [] t D (fun x1 t1 D1 =>
        (chk (qR x1)
          (if x1 = 0 then
            (chk (qR (D1 28 7))
              (if (D1 28 7) = 43 then
                (chk (0 ≤ (((24 * (D1 28 2)) + (3 * (D1 28 3))) + (D1 28 6)) ∧ (((24 * (D1 28 2)) + (3 * (D1 28 3))) + (D1 28 6)) < 72)
                  (wp S 116 0 [some (qs 28)] [] t1 (up (up (up D1 28 8 ((D1 28 8) + (l1 - 48))) 32 (((24 * (D1 28 2)) + (3 * (D1 28 3))) + (D1 28 6)) (l1 - 48)) 28 6 (((up (up D1 28 8 ((D1 28 8) + (l1 - 48))) 32 (((24 * (D1 28 2)) + (3 * (D1 28 3))) + (D1 28 6)) (l1 - 48)) 28 6) + 1)) (fun _ t2 D2 =>
                      (Q 0 t2 D2))))
                else
                (chk (0 ≤ (((24 * (D1 28 2)) + (3 * (D1 28 3))) + (D1 28 6)) ∧ (((24 * (D1 28 2)) + (3 * (D1 28 3))) + (D1 28 6)) < 72)
                  (wp S 116 0 [some (qs 28)] [] t1 (up (up (up D1 28 8 ((D1 28 8) + 0)) 32 (((24 * (D1 28 2)) + (3 * (D1 28 3))) + (D1 28 6)) (l1 - 48)) 28 6 (((up (up D1 28 8 ((D1 28 8) + 0)) 32 (((24 * (D1 28 2)) + (3 * (D1 28 3))) + (D1 28 6)) (l1 - 48)) 28 6) + 1)) (fun _ t3 D3 =>
                      (Q 0 t3 D3))))))
            else
            (chk (qR (((D1 28 8) + l1) - 48))
              (if (((D1 28 8) + l1) - 48) < 10 then
                (chk (qR (D1 28 7))
                  (if (D1 28 7) = 43 then
                    (chk (0 ≤ (((24 * (D1 28 2)) + (3 * (D1 28 3))) + (D1 28 6)) ∧ (((24 * (D1 28 2)) + (3 * (D1 28 3))) + (D1 28 6)) < 72)
                      (wp S 116 0 [some (qs 28)] [] t1 (up (up (up D1 28 8 ((D1 28 8) + (l1 - 48))) 32 (((24 * (D1 28 2)) + (3 * (D1 28 3))) + (D1 28 6)) (l1 - 48)) 28 6 (((up (up D1 28 8 ((D1 28 8) + (l1 - 48))) 32 (((24 * (D1 28 2)) + (3 * (D1 28 3))) + (D1 28 6)) (l1 - 48)) 28 6) + 1)) (fun _ t4 D4 =>
                        (Q 1 t4 D4))))
                    else
                    (chk (0 ≤ (((24 * (D1 28 2)) + (3 * (D1 28 3))) + (D1 28 6)) ∧ (((24 * (D1 28 2)) + (3 * (D1 28 3))) + (D1 28 6)) < 72)
                      (wp S 116 0 [some (qs 28)] [] t1 (up (up (up D1 28 8 ((D1 28 8) + 0)) 32 (((24 * (D1 28 2)) + (3 * (D1 28 3))) + (D1 28 6)) (l1 - 48)) 28 6 (((up (up D1 28 8 ((D1 28 8) + 0)) 32 (((24 * (D1 28 2)) + (3 * (D1 28 3))) + (D1 28 6)) (l1 - 48)) 28 6) + 1)) (fun _ t5 D5 =>
                        (Q 1 t5 D5))))))
                else
                (chk (qR (D1 28 7))
                  (if (D1 28 7) = 43 then
                    (chk (0 ≤ (((24 * (D1 28 2)) + (3 * (D1 28 3))) + (D1 28 6)) ∧ (((24 * (D1 28 2)) + (3 * (D1 28 3))) + (D1 28 6)) < 72)
                      (wp S 116 0 [some (qs 28)] [] t1 (up (up (up D1 28 8 ((D1 28 8) + (l1 - 48))) 32 (((24 * (D1 28 2)) + (3 * (D1 28 3))) + (D1 28 6)) (l1 - 48)) 28 6 (((up (up D1 28 8 ((D1 28 8) + (l1 - 48))) 32 (((24 * (D1 28 2)) + (3 * (D1 28 3))) + (D1 28 6)) (l1 - 48)) 28 6) + 1)) (fun _ t6 D6 =>
                        (Q 0 t6 D6))))
                    else
                    (chk (0 ≤ (((24 * (D1 28 2)) + (3 * (D1 28 3))) + (D1 28 6)) ∧ (((24 * (D1 28 2)) + (3 * (D1 28 3))) + (D1 28 6)) < 72)
                      (wp S 116 0 [some (qs 28)] [] t1 (up (up (up D1 28 8 ((D1 28 8) + 0)) 32 (((24 * (D1 28 2)) + (3 * (D1 28 3))) + (D1 28 6)) (l1 - 48)) 28 6 (((up (up D1 28 8 ((D1 28 8) + 0)) 32 (((24 * (D1 28 2)) + (3 * (D1 28 3))) + (D1 28 6)) (l1 - 48)) 28 6) + 1)) (fun _ t7 D7 =>
                        (Q 0 t7 D7)))))))))))))
  else
  (chk (qR l1)
    (chk (qR (D 28 6))
      (if (D 28 6) = 1 then
        (wp S 110 0 [some (ql l1), none, some (ql 48), none, some (ql 51), none] [] t D (fun x8 t8 D8 =>
            (chk (qR (D8 28 7))
              (if (D8 28 7) = 43 then
                (chk (0 ≤ (((24 * (D8 28 2)) + (3 * (D8 28 3))) + (D8 28 6)) ∧ (((24 * (D8 28 2)) + (3 * (D8 28 3))) + (D8 28 6)) < 72)
                  (wp S 116 0 [some (qs 28)] [] t8 (up (up (up D8 28 8 ((D8 28 8) + (l1 - 48))) 32 (((24 * (D8 28 2)) + (3 * (D8 28 3))) + (D8 28 6)) (l1 - 48)) 28 6 (((up (up D8 28 8 ((D8 28 8) + (l1 - 48))) 32 (((24 * (D8 28 2)) + (3 * (D8 28 3))) + (D8 28 6)) (l1 - 48)) 28 6) + 1)) (fun _ t9 D9 =>
                      (chk (x8 = 0 ∨ x8 = 1)
                        (Q x8 t9 D9)))))
                else
                (chk (0 ≤ (((24 * (D8 28 2)) + (3 * (D8 28 3))) + (D8 28 6)) ∧ (((24 * (D8 28 2)) + (3 * (D8 28 3))) + (D8 28 6)) < 72)
                  (wp S 116 0 [some (qs 28)] [] t8 (up (up (up D8 28 8 ((D8 28 8) + 0)) 32 (((24 * (D8 28 2)) + (3 * (D8 28 3))) + (D8 28 6)) (l1 - 48)) 28 6 (((up (up D8 28 8 ((D8 28 8) + 0)) 32 (((24 * (D8 28 2)) + (3 * (D8 28 3))) + (D8 28 6)) (l1 - 48)) 28 6) + 1)) (fun _ t10 D10 =>
                      (chk (x8 = 0 ∨ x8 = 1)
                        (Q x8 t10 D10)))))))))
        else
        (wp S 110 0 [some (ql l1), none, some (ql 48), none, some (ql 53), none] [] t D (fun x11 t11 D11 =>
            (chk (qR (D11 28 7))
              (if (D11 28 7) = 43 then
                (chk (0 ≤ (((24 * (D11 28 2)) + (3 * (D11 28 3))) + (D11 28 6)) ∧ (((24 * (D11 28 2)) + (3 * (D11 28 3))) + (D11 28 6)) < 72)
                  (wp S 116 0 [some (qs 28)] [] t11 (up (up (up D11 28 8 ((D11 28 8) + (l1 - 48))) 32 (((24 * (D11 28 2)) + (3 * (D11 28 3))) + (D11 28 6)) (l1 - 48)) 28 6 (((up (up D11 28 8 ((D11 28 8) + (l1 - 48))) 32 (((24 * (D11 28 2)) + (3 * (D11 28 3))) + (D11 28 6)) (l1 - 48)) 28 6) + 1)) (fun _ t12 D12 =>
                      (chk (x11 = 0 ∨ x11 = 1)
                        (Q x11 t12 D12)))))
                else
                (chk (0 ≤ (((24 * (D11 28 2)) + (3 * (D11 28 3))) + (D11 28 6)) ∧ (((24 * (D11 28 2)) + (3 * (D11 28 3))) + (D11 28 6)) < 72)
                  (wp S 116 0 [some (qs 28)] [] t11 (up (up (up D11 28 8 ((D11 28 8) + 0)) 32 (((24 * (D11 28 2)) + (3 * (D11 28 3))) + (D11 28 6)) (l1 - 48)) 28 6 (((up (up D11 28 8 ((D11 28 8) + 0)) 32 (((24 * (D11 28 2)) + (3 * (D11 28 3))) + (D11 28 6)) (l1 - 48)) 28 6) + 1)) (fun _ t13 D13 =>
                      (chk (x11 = 0 ∨ x11 = 1)
                        (Q x11 t13 D13)))))))))))))) : wp S 118 0 [some (qs 28), some (qi l1), none] [] t D Q := vc_ok (cuts := []) 600 0 _ _ _ _ h
/-! 119 X9_isPadBegun -/
set_option maxRecDepth 100000 in
theorem b119_0 {S : (Nat → Int32) × Nat} {t : qT} {D : qD} {Q : Int → qT → qD → Prop} {l1 : Int} (h :
chk (qR l1)
(if l1 = 47 then
  (chk (qR (D 28 2))
    (if (D 28 2) < 2 then
      (chk (0 ≤ ((D 28 2) + 1) ∧ ((D 28 2) + 1) < 3)
        (chk (0 ≤ ((up (up D 28 2 ((D 28 2) + 1)) 30 ((D 28 2) + 1) 0) 28 2) ∧ ((up (up D 28 2 ((D 28 2) + 1)) 30 ((D 28 2) + 1) 0) 28 2) < 3)
          (wp S 114 0 [some (qs 28)] [] t (up (up (up D 28 2 ((D 28 2) + 1)) 30 ((D 28 2) + 1) 0) 31 ((up (up D 28 2 ((D 28 2) + 1)) 30 ((D 28 2) + 1) 0) 28 2) 0) (fun _ t1 D1 =>
              (Q 1 t1 D1)))))
      else
      (wp S 113 0 [some (qi l1)] [] t D (fun x2 t2 D2 =>
          (chk (qR x2)
            (if x2 = (-1) then
              (Q 0 t2 D2)
              else
              (chk (qR (D2 28 4))
                (if (D2 28 4) = 3 then
                  (Q 0 t2 D2)
                  else
                  (wp S 113 0 [some (qi l1)] [] t2 D2 (fun x3 t3 D3 =>
                      (chk (0 ≤ ((15 * (D2 28 2)) + (5 * (D2 28 4))) ∧ ((15 * (D2 28 2)) + (5 * (D2 28 4))) < 45)
                        (Q 1 t3 (up (up D3 33 ((15 * (D2 28 2)) + (5 * (D2 28 4))) x3) 28 6 1)))))))))))))
  else
  (wp S 113 0 [some (qi l1)] [] t D (fun x4 t4 D4 =>
      (chk (qR x4)
        (if x4 = (-1) then
          (Q 0 t4 D4)
          else
          (chk (qR (D4 28 4))
            (if (D4 28 4) = 3 then
              (Q 0 t4 D4)
              else
              (wp S 113 0 [some (qi l1)] [] t4 D4 (fun x5 t5 D5 =>
                  (chk (0 ≤ ((15 * (D4 28 2)) + (5 * (D4 28 4))) ∧ ((15 * (D4 28 2)) + (5 * (D4 28 4))) < 45)
                    (Q 1 t5 (up (up D5 33 ((15 * (D4 28 2)) + (5 * (D4 28 4))) x5) 28 6 1))))))))))))) : wp S 119 0 [some (qs 28), some (qi l1)] [] t D Q := vc_ok (cuts := []) 600 0 _ _ _ _ h
/-! 120 X9_isPadDigit -/
set_option maxRecDepth 100000 in
theorem b120_0 {S : (Nat → Int32) × Nat} {t : qT} {D : qD} {Q : Int → qT → qD → Prop} {l1 : Int} (h :
chk (0 ≤ (((15 * (D 28 2)) + (5 * (D 28 4))) + (D 28 6)) ∧ (((15 * (D 28 2)) + (5 * (D 28 4))) + (D 28 6)) < 45)
(chk (qR l1)
  (chk (qR ((up D 33 (((15 * (D 28 2)) + (5 * (D 28 4))) + (D 28 6)) (l1 - 48)) 28 6))
    (if ((up D 33 (((15 * (D 28 2)) + (5 * (D 28 4))) + (D 28 6)) (l1 - 48)) 28 6) = 3 then
      (wp S 110 0 [some (ql l1), none, some (ql 48), none, some (ql 52), none] [] t (up D 33 (((15 * (D 28 2)) + (5 * (D 28 4))) + (D 28 6)) (l1 - 48)) (fun x1 t1 D1 =>
          (chk (qR x1)
            (if x1 = 0 then
              (chk (qR ((D1 28 6) + 1))
                (if ((D1 28 6) + 1) = 5 then
                  (chk (0 ≤ (D1 28 2) ∧ (D1 28 2) < 3)
                    (Q 0 t1 (up (up (up (up D1 28 6 ((D1 28 6) + 1)) 28 6 0) 28 4 ((D1 28 4) + 1)) 31 (D1 28 2) ((D1 28 4) + 1))))
                  else
                  (Q 0 t1 (up D1 28 6 ((D1 28 6) + 1)))))
              else
              (chk (qR (D1 28 6))
                (if (D1 28 6) = 2 then
                  (chk (0 ≤ (((15 * (D 28 2)) + (5 * (D 28 4))) + (D 28 6)) ∧ (((15 * (D 28 2)) + (5 * (D 28 4))) + (D 28 6)) < 45)
                    (chk (0 ≤ ((((15 * (D 28 2)) + (5 * (D 28 4))) + (D 28 6)) - 1) ∧ ((((15 * (D 28 2)) + (5 * (D 28 4))) + (D 28 6)) - 1) < 45)
                      (chk (qR (D1 33 (((15 * (D 28 2)) + (5 * (D 28 4))) + (D 28 6))))
                        (chk (qR (D1 33 ((((15 * (D 28 2)) + (5 * (D 28 4))) + (D 28 6)) - 1)))
                        (if (D1 33 (((15 * (D 28 2)) + (5 * (D 28 4))) + (D 28 6))) < (D1 33 ((((15 * (D 28 2)) + (5 * (D 28 4))) + (D 28 6)) - 1)) then
                        (chk (qR ((D1 28 6) + 1))
                        (if ((D1 28 6) + 1) = 5 then
                        (chk (0 ≤ (D1 28 2) ∧ (D1 28 2) < 3)
                        (Q 0 t1 (up (up (up (up D1 28 6 ((D1 28 6) + 1)) 28 6 0) 28 4 ((D1 28 4) + 1)) 31 (D1 28 2) ((D1 28 4) + 1))))
                        else
                        (Q 0 t1 (up D1 28 6 ((D1 28 6) + 1)))))
                        else
                        (chk (qR ((D1 28 6) + 1))
                        (if ((D1 28 6) + 1) = 5 then
                        (chk (0 ≤ (D1 28 2) ∧ (D1 28 2) < 3)
                        (Q 1 t1 (up (up (up (up D1 28 6 ((D1 28 6) + 1)) 28 6 0) 28 4 ((D1 28 4) + 1)) 31 (D1 28 2) ((D1 28 4) + 1))))
                        else
                        (Q 1 t1 (up D1 28 6 ((D1 28 6) + 1))))))))))
                  else
                  (chk (qR ((D1 28 6) + 1))
                    (if ((D1 28 6) + 1) = 5 then
                      (chk (0 ≤ (D1 28 2) ∧ (D1 28 2) < 3)
                        (Q 1 t1 (up (up (up (up D1 28 6 ((D1 28 6) + 1)) 28 6 0) 28 4 ((D1 28 4) + 1)) 31 (D1 28 2) ((D1 28 4) + 1))))
                      else
                      (Q 1 t1 (up D1 28 6 ((D1 28 6) + 1)))))))))))
      else
      (wp S 110 0 [some (ql l1), none, some (ql 48), none, some (ql 57), none] [] t (up D 33 (((15 * (D 28 2)) + (5 * (D 28 4))) + (D 28 6)) (l1 - 48)) (fun x2 t2 D2 =>
          (chk (qR x2)
            (if x2 = 0 then
              (chk (qR ((D2 28 6) + 1))
                (if ((D2 28 6) + 1) = 5 then
                  (chk (0 ≤ (D2 28 2) ∧ (D2 28 2) < 3)
                    (Q 0 t2 (up (up (up (up D2 28 6 ((D2 28 6) + 1)) 28 6 0) 28 4 ((D2 28 4) + 1)) 31 (D2 28 2) ((D2 28 4) + 1))))
                  else
                  (Q 0 t2 (up D2 28 6 ((D2 28 6) + 1)))))
              else
              (chk (qR (D2 28 6))
                (if (D2 28 6) = 2 then
                  (chk (0 ≤ (((15 * (D 28 2)) + (5 * (D 28 4))) + (D 28 6)) ∧ (((15 * (D 28 2)) + (5 * (D 28 4))) + (D 28 6)) < 45)
                    (chk (0 ≤ ((((15 * (D 28 2)) + (5 * (D 28 4))) + (D 28 6)) - 1) ∧ ((((15 * (D 28 2)) + (5 * (D 28 4))) + (D 28 6)) - 1) < 45)
                      (chk (qR (D2 33 (((15 * (D 28 2)) + (5 * (D 28 4))) + (D 28 6))))
                        (chk (qR (D2 33 ((((15 * (D 28 2)) + (5 * (D 28 4))) + (D 28 6)) - 1)))
                        (if (D2 33 (((15 * (D 28 2)) + (5 * (D 28 4))) + (D 28 6))) < (D2 33 ((((15 * (D 28 2)) + (5 * (D 28 4))) + (D 28 6)) - 1)) then
                        (chk (qR ((D2 28 6) + 1))
                        (if ((D2 28 6) + 1) = 5 then
                        (chk (0 ≤ (D2 28 2) ∧ (D2 28 2) < 3)
                        (Q 0 t2 (up (up (up (up D2 28 6 ((D2 28 6) + 1)) 28 6 0) 28 4 ((D2 28 4) + 1)) 31 (D2 28 2) ((D2 28 4) + 1))))
                        else
                        (Q 0 t2 (up D2 28 6 ((D2 28 6) + 1)))))
                        else
                        (chk (qR ((D2 28 6) + 1))
                        (if ((D2 28 6) + 1) = 5 then
                        (chk (0 ≤ (D2 28 2) ∧ (D2 28 2) < 3)
                        (Q 1 t2 (up (up (up (up D2 28 6 ((D2 28 6) + 1)) 28 6 0) 28 4 ((D2 28 4) + 1)) 31 (D2 28 2) ((D2 28 4) + 1))))
                        else
                        (Q 1 t2 (up D2 28 6 ((D2 28 6) + 1))))))))))
                  else
                  (chk (qR ((D2 28 6) + 1))
                    (if ((D2 28 6) + 1) = 5 then
                      (chk (0 ≤ (D2 28 2) ∧ (D2 28 2) < 3)
                        (Q 1 t2 (up (up (up (up D2 28 6 ((D2 28 6) + 1)) 28 6 0) 28 4 ((D2 28 4) + 1)) 31 (D2 28 2) ((D2 28 4) + 1))))
                      else
                      (Q 1 t2 (up D2 28 6 ((D2 28 6) + 1))))))))))))))) : wp S 120 0 [some (qs 28), some (qi l1), none, none] [] t D Q := vc_ok (cuts := []) 600 0 _ _ _ _ h
/-! 121 X9_isGood -/
set_option maxRecDepth 100000 in
theorem b121_0 {S : (Nat → Int32) × Nat} {t : qT} {D : qD} {Q : Int → qT → qD → Prop} {l1 : Int} (h :
chk (0 ≤ l1 ∧ l1 < 100)
(chk (qR (D 28 5))
  (if (D 28 5) = 0 then
    (chk (qR (D 28 6))
      (if (D 28 6) = 0 then
        (wp S 117 0 [some (qs 28), some (qi (D 29 l1)), none] [] t D (fun x1 t1 D1 =>
            (chk (x1 = 0 ∨ x1 = 1)
              (Q x1 t1 D1))))
        else
        (wp S 118 0 [some (qs 28), some (qi (D 29 l1)), none] [] t D (fun x2 t2 D2 =>
            (chk (x2 = 0 ∨ x2 = 1)
              (Q x2 t2 D2))))))
    else
    (chk (qR (D 28 6))
      (if (D 28 6) = 0 then
        (wp S 119 0 [some (qs 28), some (qi (D 29 l1))] [] t D (fun x3 t3 D3 =>
            (chk (x3 = 0 ∨ x3 = 1)
              (Q x3 t3 D3))))
        else
        (wp S 120 0 [some (qs 28), some (qi (D 29 l1)), none, none] [] t D (fun x4 t4 D4 =>
            (chk (x4 = 0 ∨ x4 = 1)
              (Q x4 t4 D4))))))))) : wp S 121 0 [some (qs 28), some (qi l1), none] [] t D Q := vc_ok (cuts := []) 600 0 _ _ _ _ h
/-! 122 X9_faultOf -/
set_option maxRecDepth 100000 in
theorem b122_0 {S : (Nat → Int32) × Nat} {t : qT} {D : qD} {Q : Int → qT → qD → Prop} (h :
wp S 114 0 [some (qs 28)] [] t (up (up (up D 28 2 0) 30 0 0) 31 0 0) (fun _ t1 D1 =>
  (wp S 122 25 [some (qs 28), some (qi 0)] [] t1 D1 Q))) : wp S 122 0 [some (qs 28), none] [] t D Q := vc_ok (cuts := [25]) 600 0 _ _ _ _ h
set_option maxRecDepth 100000 in
theorem b122_25 {S : (Nat → Int32) × Nat} {t : qT} {D : qD} {Q : Int → qT → qD → Prop} {l1 : Int} (h :
chk (qR l1)
(chk (qR (D 28 1))
  (if l1 < (D 28 1) then
    (wp S 121 0 [some (qs 28), some (qi l1), none] [] t D (fun x1 t1 D1 =>
        (chk (qR x1)
          (if x1 = 0 then
            (Q l1 t1 D1)
            else
            (wp S 122 25 [some (qs 28), some (qi (l1 + 1))] [] t1 D1 Q)))))
    else
    (Q l1 t D)))) : wp S 122 25 [some (qs 28), some (qi l1)] [] t D Q := vc_ok (cuts := [25]) 600 25 _ _ _ _ h
/-! 123 X9_fault -/
set_option maxRecDepth 100000 in
theorem b123_0 {S : (Nat → Int32) × Nat} {t : qT} {D : qD} {Q : Int → qT → qD → Prop} (h :
wp S 122 0 [some (qs 28), none] [] t D (fun x1 t1 D1 =>
  (Q x1 t1 D1))) : wp S 123 0 [some (qs 28)] [] t D Q := vc_ok (cuts := []) 600 0 _ _ _ _ h
/-! 124 X9_copy -/
set_option maxRecDepth 100000 in
theorem b124_0 {S : (Nat → Int32) × Nat} {t : qT} {D : qD} {Q : Int → qT → qD → Prop} {a b : Nat} (h :
wp S 124 2 [some (qs a), some (qs b), some (qi 0)] [] t D Q) : wp S 124 0 [some (qs a), some (qs b), none] [] t D Q := vc_ok (cuts := [2]) 600 0 _ _ _ _ h
set_option maxRecDepth 100000 in
theorem b124_2 {S : (Nat → Int32) × Nat} {t : qT} {D : qD} {Q : Int → qT → qD → Prop} {l2 : Int} {a b : Nat} (h :
chk ((qsT a).1 = 10)
(chk (qR l2)
  (chk (qR (qsT a).2)
    (if l2 < (qsT a).2 then
      (chk ((qsT a).1 = 10)
        (chk (0 ≤ l2 ∧ l2 < (qsT a).2)
          (chk ((qsT b).1 = 10)
            (chk (0 ≤ l2 ∧ l2 < (qsT b).2)
              (wp S 124 2 [some (qs a), some (qs b), some (qi (l2 + 1))] [] t (up D b l2 (D a l2)) Q)))))
      else
      (Q 0 t D))))) : wp S 124 2 [some (qs a), some (qs b), some (qi l2)] [] t D Q := vc_ok (cuts := [2]) 600 2 _ _ _ _ h
/-! 125 X9_doOp -/
set_option maxRecDepth 100000 in
theorem b125_0 {S : (Nat → Int32) × Nat} {t : qT} {D : qD} {Q : Int → qT → qD → Prop} {l1 l2 : Int} (h :
chk (0 ≤ ((24 * l1) + (3 * l2)) ∧ ((24 * l1) + (3 * l2)) < 72)
(chk (0 ≤ (((24 * l1) + (3 * l2)) + 1) ∧ (((24 * l1) + (3 * l2)) + 1) < 72)
  (chk (qR (D 39 ((24 * l1) + (3 * l2))))
    (if (D 39 ((24 * l1) + (3 * l2))) = 98 then
      (wp S 125 164 [some (qs 28), some (qi l1), some (qi l2), some (qi (D 39 ((24 * l1) + (3 * l2)))), some (qi (D 39 (((24 * l1) + (3 * l2)) + 1))), some (qi 0)] [] t D Q)
      else
      (if (D 39 ((24 * l1) + (3 * l2))) = 109 then
        (wp S 125 125 [some (qs 28), some (qi l1), some (qi l2), some (qi (D 39 ((24 * l1) + (3 * l2)))), some (qi (D 39 (((24 * l1) + (3 * l2)) + 1))), some (qi 0)] [] t (up D 28 24 ((D 28 24) + 1)) Q)
        else
        (if (D 39 ((24 * l1) + (3 * l2))) = 115 then
          (chk (0 ≤ (((24 * l1) + (3 * l2)) + 2) ∧ (((24 * l1) + (3 * l2)) + 2) < 72)
            (chk (0 ≤ (D 39 (((24 * l1) + (3 * l2)) + 1)) ∧ (D 39 (((24 * l1) + (3 * l2)) + 1)) < 16)
              (Q 0 t (up D 41 (D 39 (((24 * l1) + (3 * l2)) + 1)) (D 39 (((24 * l1) + (3 * l2)) + 2))))))
          else
          (if (D 39 ((24 * l1) + (3 * l2))) = 117 then
            (chk (0 ≤ (D 39 (((24 * l1) + (3 * l2)) + 1)) ∧ (D 39 (((24 * l1) + (3 * l2)) + 1)) < 16)
              (Q 0 t (up D 41 (D 39 (((24 * l1) + (3 * l2)) + 1)) (-1))))
            else
            (Q 0 t D)))))))) : wp S 125 0 [some (qs 28), some (qi l1), some (qi l2), none, none, none] [] t D Q := vc_ok (cuts := [125, 164]) 600 0 _ _ _ _ h
set_option maxRecDepth 100000 in
theorem b125_125 {S : (Nat → Int32) × Nat} {t : qT} {D : qD} {Q : Int → qT → qD → Prop} {l1 l2 l3 l4 l5 : Int} (h :
chk (qR l5)
(if l5 < 4 then
  (chk (0 ≤ l5 ∧ l5 < 16)
    (chk (0 ≤ ((4 * (D 28 24)) + l5) ∧ ((4 * (D 28 24)) + l5) < 16)
      (wp S 125 125 [some (qs 28), some (qi l1), some (qi l2), some (qi l3), some (qi l4), some (qi (l5 + 1))] [] t (up D 41 ((4 * (D 28 24)) + l5) (D 41 l5)) Q)))
  else
  (Q 0 t D))) : wp S 125 125 [some (qs 28), some (qi l1), some (qi l2), some (qi l3), some (qi l4), some (qi l5)] [] t D Q := vc_ok (cuts := [125, 164]) 600 125 _ _ _ _ h
set_option maxRecDepth 100000 in
theorem b125_164 {S : (Nat → Int32) × Nat} {t : qT} {D : qD} {Q : Int → qT → qD → Prop} {l1 l2 l3 l4 l5 : Int} (h :
chk (qR l5)
(if l5 < 4 then
  (chk (0 ≤ ((4 * (D 28 24)) + l5) ∧ ((4 * (D 28 24)) + l5) < 16)
    (chk (0 ≤ l5 ∧ l5 < 16)
      (chk (0 ≤ ((4 * ((up D 41 l5 (D 41 ((4 * (D 28 24)) + l5))) 28 24)) + l5) ∧ ((4 * ((up D 41 l5 (D 41 ((4 * (D 28 24)) + l5))) 28 24)) + l5) < 16)
        (wp S 125 164 [some (qs 28), some (qi l1), some (qi l2), some (qi l3), some (qi l4), some (qi (l5 + 1))] [] t (up (up D 41 l5 (D 41 ((4 * (D 28 24)) + l5))) 41 ((4 * ((up D 41 l5 (D 41 ((4 * (D 28 24)) + l5))) 28 24)) + l5) (-1)) Q))))
  else
  (Q 0 t (up D 28 24 ((D 28 24) - 1))))) : wp S 125 164 [some (qs 28), some (qi l1), some (qi l2), some (qi l3), some (qi l4), some (qi l5)] [] t D Q := vc_ok (cuts := [125, 164]) 600 164 _ _ _ _ h
/-! 126 X9_layFunction -/
set_option maxRecDepth 100000 in
theorem b126_0 {S : (Nat → Int32) × Nat} {t : qT} {D : qD} {Q : Int → qT → qD → Prop} {l1 : Int} (h :
wp S 126 2 [some (qs 28), some (qi l1), some (qi 0), none, none, none, none] [] t D Q) : wp S 126 0 [some (qs 28), some (qi l1), none, none, none, none, none] [] t D Q := vc_ok (cuts := [2, 33, 43, 182]) 600 0 _ _ _ _ h
set_option maxRecDepth 100000 in
theorem b126_2 {S : (Nat → Int32) × Nat} {t : qT} {D : qD} {Q : Int → qT → qD → Prop} {l1 l2 : Int} (h :
chk (qR l2)
(if l2 < 16 then
  (chk (0 ≤ l2 ∧ l2 < 16)
    (wp S 126 2 [some (qs 28), some (qi l1), some (qi (l2 + 1)), none, none, none, none] [] t (up D 41 l2 (-1)) Q))
  else
  (wp S 126 33 [some (qs 28), some (qi l1), some (qi 0), some (qi 0), some (qi 0), none, none] [] t (up D 28 24 0) Q))) : wp S 126 2 [some (qs 28), some (qi l1), some (qi l2), none, none, none, none] [] t D Q := vc_ok (cuts := [2, 33, 43, 182]) 600 2 _ _ _ _ h
set_option maxRecDepth 100000 in
theorem b126_33 {S : (Nat → Int32) × Nat} {t : qT} {D : qD} {Q : Int → qT → qD → Prop} {l1 l2 l3 l4 : Int} {o5 o6 : Option qV} (h :
chk (qR l4)
(if l4 < 10 then
  (wp S 126 43 [some (qs 28), some (qi l1), some (qi l2), some (qi l3), some (qi l4), some (qi 0), o6] [] t D Q)
  else
  (Q 0 t D))) : wp S 126 33 [some (qs 28), some (qi l1), some (qi l2), some (qi l3), some (qi l4), o5, o6] [] t D Q := vc_ok (cuts := [2, 33, 43, 182]) 600 33 _ _ _ _ h
set_option maxRecDepth 100000 in
theorem b126_43 {S : (Nat → Int32) × Nat} {t : qT} {D : qD} {Q : Int → qT → qD → Prop} {l1 l2 l3 l4 l5 : Int} {o6 : Option qV} (h :
chk (0 ≤ l1 ∧ l1 < 3)
(chk (qR l2)
  (chk (qR (D 37 l1))
    (if l2 < (D 37 l1) then
      (chk (0 ≤ ((24 * l1) + (3 * l2)) ∧ ((24 * l1) + (3 * l2)) < 72)
        (chk (qR (D 39 ((24 * l1) + (3 * l2))))
          (if (D 39 ((24 * l1) + (3 * l2))) = 43 then
            (chk (0 ≤ (((24 * l1) + (3 * l2)) + 1) ∧ (((24 * l1) + (3 * l2)) + 1) < 72)
              (chk (qR (l3 + (D 39 (((24 * l1) + (3 * l2)) + 1))))
                (chk (qR l4)
                  (if l4 < (l3 + (D 39 (((24 * l1) + (3 * l2)) + 1))) then
                    (wp S 126 182 [some (qs 28), some (qi l1), some (qi l2), some (qi l3), some (qi l4), some (qi l5), some (qi 0)] [] t D Q)
                    else
                    (chk (0 ≤ ((24 * l1) + (3 * l2)) ∧ ((24 * l1) + (3 * l2)) < 72)
                      (chk (qR (D 39 ((24 * l1) + (3 * l2))))
                        (if (D 39 ((24 * l1) + (3 * l2))) = 43 then
                        (chk (0 ≤ (((24 * l1) + (3 * l2)) + 1) ∧ (((24 * l1) + (3 * l2)) + 1) < 72)
                        (wp S 125 0 [some (qs 28), some (qi l1), some (qi l2), none, none, none] [] t D (fun _ t1 D1 =>
                        (chk (qR l5)
                        (if l5 = 0 then
                        (chk (0 ≤ ((24 * l1) + (3 * l2)) ∧ ((24 * l1) + (3 * l2)) < 72)
                        (chk (qR (D1 39 ((24 * l1) + (3 * l2))))
                        (if (D1 39 ((24 * l1) + (3 * l2))) = 43 then
                        (wp S 126 43 [some (qs 28), some (qi l1), some (qi (l2 + 1)), some (qi (l3 + (D 39 (((24 * l1) + (3 * l2)) + 1)))), some (qi l4), some (qi 0), o6] [] t1 D1 Q)
                        else
                        (wp S 126 43 [some (qs 28), some (qi l1), some (qi (l2 + 1)), some (qi (l3 + (D 39 (((24 * l1) + (3 * l2)) + 1)))), some (qi l4), some (qi 1), o6] [] t1 D1 Q))))
                        else
                        (wp S 126 43 [some (qs 28), some (qi l1), some (qi (l2 + 1)), some (qi (l3 + (D 39 (((24 * l1) + (3 * l2)) + 1)))), some (qi l4), some (qi 1), o6] [] t1 D1 Q))))))
                        else
                        (wp S 125 0 [some (qs 28), some (qi l1), some (qi l2), none, none, none] [] t D (fun _ t2 D2 =>
                        (chk (qR l5)
                        (if l5 = 0 then
                        (chk (0 ≤ ((24 * l1) + (3 * l2)) ∧ ((24 * l1) + (3 * l2)) < 72)
                        (chk (qR (D2 39 ((24 * l1) + (3 * l2))))
                        (if (D2 39 ((24 * l1) + (3 * l2))) = 43 then
                        (wp S 126 43 [some (qs 28), some (qi l1), some (qi (l2 + 1)), some (qi (l3 + 0)), some (qi l4), some (qi 0), o6] [] t2 D2 Q)
                        else
                        (wp S 126 43 [some (qs 28), some (qi l1), some (qi (l2 + 1)), some (qi (l3 + 0)), some (qi l4), some (qi 1), o6] [] t2 D2 Q))))
                        else
                        (wp S 126 43 [some (qs 28), some (qi l1), some (qi (l2 + 1)), some (qi (l3 + 0)), some (qi l4), some (qi 1), o6] [] t2 D2 Q))))))))))))
            else
            (chk (qR (l3 + 0))
              (chk (qR l4)
                (if l4 < (l3 + 0) then
                  (wp S 126 182 [some (qs 28), some (qi l1), some (qi l2), some (qi l3), some (qi l4), some (qi l5), some (qi 0)] [] t D Q)
                  else
                  (chk (0 ≤ ((24 * l1) + (3 * l2)) ∧ ((24 * l1) + (3 * l2)) < 72)
                    (chk (qR (D 39 ((24 * l1) + (3 * l2))))
                      (if (D 39 ((24 * l1) + (3 * l2))) = 43 then
                        (chk (0 ≤ (((24 * l1) + (3 * l2)) + 1) ∧ (((24 * l1) + (3 * l2)) + 1) < 72)
                        (wp S 125 0 [some (qs 28), some (qi l1), some (qi l2), none, none, none] [] t D (fun _ t3 D3 =>
                        (chk (qR l5)
                        (if l5 = 0 then
                        (chk (0 ≤ ((24 * l1) + (3 * l2)) ∧ ((24 * l1) + (3 * l2)) < 72)
                        (chk (qR (D3 39 ((24 * l1) + (3 * l2))))
                        (if (D3 39 ((24 * l1) + (3 * l2))) = 43 then
                        (wp S 126 43 [some (qs 28), some (qi l1), some (qi (l2 + 1)), some (qi (l3 + (D 39 (((24 * l1) + (3 * l2)) + 1)))), some (qi l4), some (qi 0), o6] [] t3 D3 Q)
                        else
                        (wp S 126 43 [some (qs 28), some (qi l1), some (qi (l2 + 1)), some (qi (l3 + (D 39 (((24 * l1) + (3 * l2)) + 1)))), some (qi l4), some (qi 1), o6] [] t3 D3 Q))))
                        else
                        (wp S 126 43 [some (qs 28), some (qi l1), some (qi (l2 + 1)), some (qi (l3 + (D 39 (((24 * l1) + (3 * l2)) + 1)))), some (qi l4), some (qi 1), o6] [] t3 D3 Q))))))
                        else
                        (wp S 125 0 [some (qs 28), some (qi l1), some (qi l2), none, none, none] [] t D (fun _ t4 D4 =>
                        (chk (qR l5)
                        (if l5 = 0 then
                        (chk (0 ≤ ((24 * l1) + (3 * l2)) ∧ ((24 * l1) + (3 * l2)) < 72)
                        (chk (qR (D4 39 ((24 * l1) + (3 * l2))))
                        (if (D4 39 ((24 * l1) + (3 * l2))) = 43 then
                        (wp S 126 43 [some (qs 28), some (qi l1), some (qi (l2 + 1)), some (qi (l3 + 0)), some (qi l4), some (qi 0), o6] [] t4 D4 Q)
                        else
                        (wp S 126 43 [some (qs 28), some (qi l1), some (qi (l2 + 1)), some (qi (l3 + 0)), some (qi l4), some (qi 1), o6] [] t4 D4 Q))))
                        else
                        (wp S 126 43 [some (qs 28), some (qi l1), some (qi (l2 + 1)), some (qi (l3 + 0)), some (qi l4), some (qi 1), o6] [] t4 D4 Q))))))))))))))
      else
      (wp S 126 182 [some (qs 28), some (qi l1), some (qi l2), some (qi l3), some (qi l4), some (qi l5), some (qi 0)] [] t D Q))))) : wp S 126 43 [some (qs 28), some (qi l1), some (qi l2), some (qi l3), some (qi l4), some (qi l5), o6] [] t D Q := vc_ok (cuts := [2, 33, 43, 182]) 600 43 _ _ _ _ h
set_option maxRecDepth 100000 in
theorem b126_182 {S : (Nat → Int32) × Nat} {t : qT} {D : qD} {Q : Int → qT → qD → Prop} {l1 l2 l3 l4 l5 l6 : Int} (h :
chk (qR l6)
(if l6 < 4 then
  (chk (0 ≤ l6 ∧ l6 < 16)
    (chk (0 ≤ (((40 * l1) + (4 * l4)) + l6) ∧ (((40 * l1) + (4 * l4)) + l6) < 120)
      (wp S 126 182 [some (qs 28), some (qi l1), some (qi l2), some (qi l3), some (qi l4), some (qi l5), some (qi (l6 + 1))] [] t (up D 34 (((40 * l1) + (4 * l4)) + l6) (D 41 l6)) Q)))
  else
  (chk (0 ≤ ((10 * l1) + l4) ∧ ((10 * l1) + l4) < 30)
    (chk (qR l5)
      (if l5 = 0 then
        (chk (qR l4)
          (if l4 = 0 then
            (chk (0 ≤ ((10 * l1) + l4) ∧ ((10 * l1) + l4) < 30)
              (wp S 126 33 [some (qs 28), some (qi l1), some (qi l2), some (qi l3), some (qi (l4 + 1)), some (qi l5), some (qi l6)] [] t (up (up D 35 ((10 * l1) + l4) (D 28 24)) 36 ((10 * l1) + l4) 0) Q))
            else
            (chk (0 ≤ (((10 * l1) + l4) - 1) ∧ (((10 * l1) + l4) - 1) < 30)
              (chk (0 ≤ ((10 * l1) + l4) ∧ ((10 * l1) + l4) < 30)
                (wp S 126 33 [some (qs 28), some (qi l1), some (qi l2), some (qi l3), some (qi (l4 + 1)), some (qi l5), some (qi l6)] [] t (up (up D 35 ((10 * l1) + l4) (D 28 24)) 36 ((10 * l1) + l4) ((up D 35 ((10 * l1) + l4) (D 28 24)) 36 (((10 * l1) + l4) - 1))) Q)))))
        else
        (chk (0 ≤ ((10 * l1) + l4) ∧ ((10 * l1) + l4) < 30)
          (wp S 126 33 [some (qs 28), some (qi l1), some (qi l2), some (qi l3), some (qi (l4 + 1)), some (qi l5), some (qi l6)] [] t (up (up D 35 ((10 * l1) + l4) (D 28 24)) 36 ((10 * l1) + l4) l4) Q))))))) : wp S 126 182 [some (qs 28), some (qi l1), some (qi l2), some (qi l3), some (qi l4), some (qi l5), some (qi l6)] [] t D Q := vc_ok (cuts := [2, 33, 43, 182]) 600 182 _ _ _ _ h
/-! 127 X9_text -/
set_option maxRecDepth 100000 in
theorem b127_0 {S : (Nat → Int32) × Nat} {t : qT} {D : qD} {Q : Int → qT → qD → Prop} (h :
wp S 122 0 [some (qs 28), none] [] t D (fun x1 t1 D1 =>
  (chk (qR x1)
    (chk (qR (D1 28 1))
      (if x1 < (D1 28 1) then
        (Q (-103) t1 D1)
        else
        (chk (qR (D1 28 5))
          (if (D1 28 5) = 0 then
            (Q (-103) t1 D1)
            else
            (chk (qR (D1 28 6))
              (if (D1 28 6) = 0 then
                (wp S 124 0 [some (qs 30), some (qs 37), none] [] t1 (up D1 28 14 ((D1 28 2) + 1)) (fun _ t2 D2 =>
                    (wp S 124 0 [some (qs 31), some (qs 38), none] [] t2 D2 (fun _ t3 D3 =>
                        (wp S 124 0 [some (qs 32), some (qs 39), none] [] t3 D3 (fun _ t4 D4 =>
                        (wp S 124 0 [some (qs 33), some (qs 40), none] [] t4 D4 (fun _ t5 D5 =>
                        (wp S 127 84 [some (qs 28), some (qi 0), none] [] t5 D5 Q)))))))))
                else
                (Q (-103) t1 D1)))))))))) : wp S 127 0 [some (qs 28), none, none] [] t D Q := vc_ok (cuts := [84, 105, 120]) 600 0 _ _ _ _ h
set_option maxRecDepth 100000 in
theorem b127_84 {S : (Nat → Int32) × Nat} {t : qT} {D : qD} {Q : Int → qT → qD → Prop} {l1 : Int} (h :
chk (qR l1)
(if l1 < 110 then
  (chk (0 ≤ l1 ∧ l1 < 110)
    (wp S 127 84 [some (qs 28), some (qi (l1 + 1)), none] [] t (up D 42 l1 0) Q))
  else
  (wp S 127 105 [some (qs 28), some (qi 0), none] [] t D Q))) : wp S 127 84 [some (qs 28), some (qi l1), none] [] t D Q := vc_ok (cuts := [84, 105, 120]) 600 84 _ _ _ _ h
set_option maxRecDepth 100000 in
theorem b127_105 {S : (Nat → Int32) × Nat} {t : qT} {D : qD} {Q : Int → qT → qD → Prop} {l1 : Int} {o2 : Option qV} (h :
chk (qR l1)
(chk (qR (D 28 14))
  (if l1 < (D 28 14) then
    (wp S 126 0 [some (qs 28), some (qi l1), none, none, none, none, none] [] t D (fun _ t1 D1 =>
        (wp S 127 120 [some (qs 28), some (qi l1), some (qi 0)] [] t1 D1 Q)))
    else
    (Q (D 28 14) t (up (up (up (up D 28 27 0) 28 31 0) 28 15 ((D 28 15) + 1)) 28 1 0))))) : wp S 127 105 [some (qs 28), some (qi l1), o2] [] t D Q := vc_ok (cuts := [84, 105, 120]) 600 105 _ _ _ _ h
set_option maxRecDepth 100000 in
theorem b127_120 {S : (Nat → Int32) × Nat} {t : qT} {D : qD} {Q : Int → qT → qD → Prop} {l1 l2 : Int} (h :
chk (0 ≤ l1 ∧ l1 < 3)
(chk (qR l2)
  (chk (qR (D 38 l1))
    (if l2 < (D 38 l1) then
      (chk (0 ≤ ((15 * l1) + (5 * l2)) ∧ ((15 * l1) + (5 * l2)) < 45)
        (chk (0 ≤ ((3 * l1) + l2) ∧ ((3 * l1) + l2) < 110)
          (wp S 127 120 [some (qs 28), some (qi l1), some (qi (l2 + 1))] [] t (up D 42 ((3 * l1) + l2) (D 40 ((15 * l1) + (5 * l2)))) Q)))
      else
      (wp S 127 105 [some (qs 28), some (qi (l1 + 1)), some (qi l2)] [] t D Q))))) : wp S 127 120 [some (qs 28), some (qi l1), some (qi l2)] [] t D Q := vc_ok (cuts := [84, 105, 120]) 600 120 _ _ _ _ h
/-! 128 X9_lacks -/
set_option maxRecDepth 100000 in
theorem b128_0 {S : (Nat → Int32) × Nat} {t : qT} {D : qD} {Q : Int → qT → qD → Prop} (h :
chk (qR (D 28 14))
(if (D 28 14) = 0 then
  (Q 1 t D)
  else
  (Q 0 t D))) : wp S 128 0 [some (qs 28)] [] t D Q := vc_ok (cuts := []) 600 0 _ _ _ _ h
/-! 129 X9_isFunction -/
set_option maxRecDepth 100000 in
theorem b129_0 {S : (Nat → Int32) × Nat} {t : qT} {D : qD} {Q : Int → qT → qD → Prop} {l1 : Int} (h :
chk (qR l1)
(chk (qR ((D 28 14) - 1))
  (wp S 110 0 [some (ql l1), none, some (ql 0), none, some (ql ((D 28 14) - 1)), none] [] t D (fun x1 t1 D1 =>
      (chk (x1 = 0 ∨ x1 = 1)
        (Q x1 t1 D1)))))) : wp S 129 0 [some (qs 28), some (qi l1)] [] t D Q := vc_ok (cuts := []) 600 0 _ _ _ _ h
/-! 130 X9_isPad -/
set_option maxRecDepth 100000 in
theorem b130_0 {S : (Nat → Int32) × Nat} {t : qT} {D : qD} {Q : Int → qT → qD → Prop} {l1 l2 : Int} (h :
wp S 129 0 [some (qs 28), some (qi l1)] [] t D (fun x1 t1 D1 =>
  (chk (qR x1)
    (if x1 = 0 then
      (Q 0 t1 D1)
      else
      (chk (qR l2)
        (chk (0 ≤ l1 ∧ l1 < 3)
          (chk (qR ((D1 38 l1) - 1))
            (wp S 110 0 [some (ql l2), none, some (ql 0), none, some (ql ((D1 38 l1) - 1)), none] [] t1 D1 (fun x2 t2 D2 =>
                (chk (qR x2)
                  (if x2 = 0 then
                    (Q 0 t2 D2)
                    else
                    (Q 1 t2 D2)))))))))))) : wp S 130 0 [some (qs 28), some (qi l1), some (qi l2)] [] t D Q := vc_ok (cuts := []) 600 0 _ _ _ _ h
/-! 131 X9_keep -/
set_option maxRecDepth 100000 in
theorem b131_0 {S : (Nat → Int32) × Nat} {t : qT} {D : qD} {Q : Int → qT → qD → Prop} (h :
chk (qR (D 28 27))
(if (D 28 27) = 30 then
  (wp S 131 11 [some (qs 28), some (qi 0)] [] t D Q)
  else
  (wp S 131 47 [some (qs 28), some (qi 0)] [] t D Q))) : wp S 131 0 [some (qs 28), none] [] t D Q := vc_ok (cuts := [11, 47]) 600 0 _ _ _ _ h
set_option maxRecDepth 100000 in
theorem b131_11 {S : (Nat → Int32) × Nat} {t : qT} {D : qD} {Q : Int → qT → qD → Prop} {l1 : Int} (h :
chk (qR l1)
(if l1 < 3190 then
  (chk (0 ≤ (l1 + 110) ∧ (l1 + 110) < 3300)
    (chk (0 ≤ l1 ∧ l1 < 3300)
      (wp S 131 11 [some (qs 28), some (qi (l1 + 1))] [] t (up D 43 l1 (D 43 (l1 + 110))) Q)))
  else
  (wp S 131 47 [some (qs 28), some (qi 0)] [] t (up D 28 27 29) Q))) : wp S 131 11 [some (qs 28), some (qi l1)] [] t D Q := vc_ok (cuts := [11, 47]) 600 11 _ _ _ _ h
set_option maxRecDepth 100000 in
theorem b131_47 {S : (Nat → Int32) × Nat} {t : qT} {D : qD} {Q : Int → qT → qD → Prop} {l1 : Int} (h :
chk (qR l1)
(if l1 < 110 then
  (chk (0 ≤ l1 ∧ l1 < 110)
    (chk (0 ≤ ((110 * (D 28 27)) + l1) ∧ ((110 * (D 28 27)) + l1) < 3300)
      (wp S 131 47 [some (qs 28), some (qi (l1 + 1))] [] t (up D 43 ((110 * (D 28 27)) + l1) (D 42 l1)) Q)))
  else
  (Q 0 t (up D 28 27 ((D 28 27) + 1))))) : wp S 131 47 [some (qs 28), some (qi l1)] [] t D Q := vc_ok (cuts := [11, 47]) 600 47 _ _ _ _ h
/-! 132 X9_undo -/
set_option maxRecDepth 100000 in
theorem b132_0 {S : (Nat → Int32) × Nat} {t : qT} {D : qD} {Q : Int → qT → qD → Prop} (h :
chk (qR (D 28 27))
(if (D 28 27) = 0 then
  (Q (-103) t D)
  else
  (wp S 132 22 [some (qs 28), some (qi 0)] [] t (up D 28 27 ((D 28 27) - 1)) Q))) : wp S 132 0 [some (qs 28), none] [] t D Q := vc_ok (cuts := [22]) 600 0 _ _ _ _ h
set_option maxRecDepth 100000 in
theorem b132_22 {S : (Nat → Int32) × Nat} {t : qT} {D : qD} {Q : Int → qT → qD → Prop} {l1 : Int} (h :
chk (qR l1)
(if l1 < 110 then
  (chk (0 ≤ ((110 * (D 28 27)) + l1) ∧ ((110 * (D 28 27)) + l1) < 3300)
    (chk (0 ≤ l1 ∧ l1 < 110)
      (wp S 132 22 [some (qs 28), some (qi (l1 + 1))] [] t (up D 42 l1 (D 43 ((110 * (D 28 27)) + l1))) Q)))
  else
  (Q (D 28 27) t D))) : wp S 132 22 [some (qs 28), some (qi l1)] [] t D Q := vc_ok (cuts := [22]) 600 22 _ _ _ _ h
/-! 133 X9_frames -/
set_option maxRecDepth 100000 in
theorem b133_0 {S : (Nat → Int32) × Nat} {t : qT} {D : qD} {Q : Int → qT → qD → Prop} (h :
Q (D 42 13) t D) : wp S 133 0 [some (qs 28)] [] t D Q := vc_ok (cuts := []) 600 0 _ _ _ _ h
/-! 134 X9_frameAt -/
set_option maxRecDepth 100000 in
theorem b134_0 {S : (Nat → Int32) × Nat} {t : qT} {D : qD} {Q : Int → qT → qD → Prop} {l1 : Int} (h :
Q (14 + (8 * (((D 42 13) - 1) - l1))) t D) : wp S 134 0 [some (qs 28), some (qi l1)] [] t D Q := vc_ok (cuts := []) 600 0 _ _ _ _ h
/-! 135 X9_saveAt -/
set_option maxRecDepth 100000 in
theorem b135_0 {S : (Nat → Int32) × Nat} {t : qT} {D : qD} {Q : Int → qT → qD → Prop} {l1 : Int} (h :
chk (0 ≤ l1 ∧ l1 < 110)
(wp S 135 12 [some (qs 28), some (qi l1), some (qi (D 42 l1)), some (qi 0), some (qi 0), none] [] t D Q)) : wp S 135 0 [some (qs 28), some (qi l1), none, none, none, none] [] t D Q := vc_ok (cuts := [12]) 600 0 _ _ _ _ h
set_option maxRecDepth 100000 in
theorem b135_12 {S : (Nat → Int32) × Nat} {t : qT} {D : qD} {Q : Int → qT → qD → Prop} {l1 l2 l3 l4 : Int} {o5 : Option qV} (h :
chk (0 ≤ l2 ∧ l2 < 3)
(chk (qR l4)
  (chk (qR (D 37 l2))
    (if l4 < (D 37 l2) then
      (chk (0 ≤ ((24 * l2) + (3 * l4)) ∧ ((24 * l2) + (3 * l4)) < 72)
        (chk (qR (D 39 ((24 * l2) + (3 * l4))))
          (if (D 39 ((24 * l2) + (3 * l4))) = 43 then
            (chk (0 ≤ (((24 * l2) + (3 * l4)) + 1) ∧ (((24 * l2) + (3 * l4)) + 1) < 72)
              (chk (0 ≤ ((24 * l2) + (3 * l4)) ∧ ((24 * l2) + (3 * l4)) < 72)
                (chk (qR (D 39 ((24 * l2) + (3 * l4))))
                  (if (D 39 ((24 * l2) + (3 * l4))) = 115 then
                    (chk (0 ≤ (l1 + 1) ∧ (l1 + 1) < 110)
                      (chk (qR (l3 + (D 39 (((24 * l2) + (3 * l4)) + 1))))
                        (chk (qR (D 42 (l1 + 1)))
                        (if (l3 + (D 39 (((24 * l2) + (3 * l4)) + 1))) = (D 42 (l1 + 1)) then
                        (chk (0 ≤ (((24 * l2) + (3 * l4)) + 2) ∧ (((24 * l2) + (3 * l4)) + 2) < 72)
                        (chk (0 ≤ (((24 * l2) + (3 * l4)) + 1) ∧ (((24 * l2) + (3 * l4)) + 1) < 72)
                        (chk (0 ≤ (9 + (D 39 (((24 * l2) + (3 * l4)) + 1))) ∧ (9 + (D 39 (((24 * l2) + (3 * l4)) + 1))) < 110)
                        (chk (0 ≤ ((l1 + 2) + (D 39 (((24 * l2) + (3 * l4)) + 2))) ∧ ((l1 + 2) + (D 39 (((24 * l2) + (3 * l4)) + 2))) < 110)
                        (wp S 135 12 [some (qs 28), some (qi l1), some (qi l2), some (qi (l3 + (D 39 (((24 * l2) + (3 * l4)) + 1)))), some (qi (l4 + 1)), some (qi ((24 * l2) + (3 * l4)))] [] t (up D 42 ((l1 + 2) + (D 39 (((24 * l2) + (3 * l4)) + 2))) (D 42 (9 + (D 39 (((24 * l2) + (3 * l4)) + 1))))) Q)))))
                        else
                        (wp S 135 12 [some (qs 28), some (qi l1), some (qi l2), some (qi (l3 + (D 39 (((24 * l2) + (3 * l4)) + 1)))), some (qi (l4 + 1)), some (qi ((24 * l2) + (3 * l4)))] [] t D Q)))))
                    else
                    (wp S 135 12 [some (qs 28), some (qi l1), some (qi l2), some (qi (l3 + (D 39 (((24 * l2) + (3 * l4)) + 1)))), some (qi (l4 + 1)), some (qi ((24 * l2) + (3 * l4)))] [] t D Q)))))
            else
            (chk (0 ≤ ((24 * l2) + (3 * l4)) ∧ ((24 * l2) + (3 * l4)) < 72)
              (chk (qR (D 39 ((24 * l2) + (3 * l4))))
                (if (D 39 ((24 * l2) + (3 * l4))) = 115 then
                  (chk (0 ≤ (l1 + 1) ∧ (l1 + 1) < 110)
                    (chk (qR (l3 + 0))
                      (chk (qR (D 42 (l1 + 1)))
                        (if (l3 + 0) = (D 42 (l1 + 1)) then
                        (chk (0 ≤ (((24 * l2) + (3 * l4)) + 2) ∧ (((24 * l2) + (3 * l4)) + 2) < 72)
                        (chk (0 ≤ (((24 * l2) + (3 * l4)) + 1) ∧ (((24 * l2) + (3 * l4)) + 1) < 72)
                        (chk (0 ≤ (9 + (D 39 (((24 * l2) + (3 * l4)) + 1))) ∧ (9 + (D 39 (((24 * l2) + (3 * l4)) + 1))) < 110)
                        (chk (0 ≤ ((l1 + 2) + (D 39 (((24 * l2) + (3 * l4)) + 2))) ∧ ((l1 + 2) + (D 39 (((24 * l2) + (3 * l4)) + 2))) < 110)
                        (wp S 135 12 [some (qs 28), some (qi l1), some (qi l2), some (qi (l3 + 0)), some (qi (l4 + 1)), some (qi ((24 * l2) + (3 * l4)))] [] t (up D 42 ((l1 + 2) + (D 39 (((24 * l2) + (3 * l4)) + 2))) (D 42 (9 + (D 39 (((24 * l2) + (3 * l4)) + 1))))) Q)))))
                        else
                        (wp S 135 12 [some (qs 28), some (qi l1), some (qi l2), some (qi (l3 + 0)), some (qi (l4 + 1)), some (qi ((24 * l2) + (3 * l4)))] [] t D Q)))))
                  else
                  (wp S 135 12 [some (qs 28), some (qi l1), some (qi l2), some (qi (l3 + 0)), some (qi (l4 + 1)), some (qi ((24 * l2) + (3 * l4)))] [] t D Q)))))))
      else
      (Q 0 t D))))) : wp S 135 12 [some (qs 28), some (qi l1), some (qi l2), some (qi l3), some (qi l4), o5] [] t D Q := vc_ok (cuts := [12]) 600 12 _ _ _ _ h
/-! 136 X9_doCall -/
set_option maxRecDepth 100000 in
theorem b136_0 {S : (Nat → Int32) × Nat} {t : qT} {D : qD} {Q : Int → qT → qD → Prop} {l1 : Int} (h :
wp S 134 0 [some (qs 28), some (qi 0)] [] t (up D 42 13 ((D 42 13) + 1)) (fun x1 t1 D1 =>
  (wp S 136 19 [some (qs 28), some (qi l1), some (qi x1), some (qi 0)] [] t1 D1 Q))) : wp S 136 0 [some (qs 28), some (qi l1), none, none] [] t D Q := vc_ok (cuts := [19]) 600 0 _ _ _ _ h
set_option maxRecDepth 100000 in
theorem b136_19 {S : (Nat → Int32) × Nat} {t : qT} {D : qD} {Q : Int → qT → qD → Prop} {l1 l2 l3 : Int} (h :
chk (qR l3)
(if l3 < 8 then
  (chk (0 ≤ (l2 + l3) ∧ (l2 + l3) < 110)
    (wp S 136 19 [some (qs 28), some (qi l1), some (qi l2), some (qi (l3 + 1))] [] t (up D 42 (l2 + l3) 0) Q))
  else
  (chk (0 ≤ l2 ∧ l2 < 110)
    (wp S 135 0 [some (qs 28), some (qi l2), none, none, none, none] [] t (up D 42 l2 l1) (fun _ t1 D1 =>
        (Q 0 t1 D1)))))) : wp S 136 19 [some (qs 28), some (qi l1), some (qi l2), some (qi l3)] [] t D Q := vc_ok (cuts := [19]) 600 19 _ _ _ _ h
/-! 137 X9_doGo -/
set_option maxRecDepth 100000 in
theorem b137_0 {S : (Nat → Int32) × Nat} {t : qT} {D : qD} {Q : Int → qT → qD → Prop} {l1 : Int} (h :
wp S 134 0 [some (qs 28), some (qi 0)] [] t D (fun x1 t1 D1 =>
  (wp S 137 8 [some (qs 28), some (qi l1), some (qi x1), some (qi 0)] [] t1 D1 Q))) : wp S 137 0 [some (qs 28), some (qi l1), none, none] [] t D Q := vc_ok (cuts := [8]) 600 0 _ _ _ _ h
set_option maxRecDepth 100000 in
theorem b137_8 {S : (Nat → Int32) × Nat} {t : qT} {D : qD} {Q : Int → qT → qD → Prop} {l1 l2 l3 : Int} (h :
chk (qR l3)
(chk (qR l1)
  (if l3 < l1 then
    (chk (0 ≤ (l2 + 1) ∧ (l2 + 1) < 110)
      (chk (0 ≤ (l2 + 1) ∧ (l2 + 1) < 110)
        (wp S 135 0 [some (qs 28), some (qi l2), none, none, none, none] [] t (up D 42 (l2 + 1) ((D 42 (l2 + 1)) + 1)) (fun _ t1 D1 =>
            (wp S 137 8 [some (qs 28), some (qi l1), some (qi l2), some (qi (l3 + 1))] [] t1 D1 Q)))))
    else
    (Q 0 t D)))) : wp S 137 8 [some (qs 28), some (qi l1), some (qi l2), some (qi l3)] [] t D Q := vc_ok (cuts := [8]) 600 8 _ _ _ _ h
end
section
/-! blocks, written by wip/whole/mkblk.py: what each stretch of a method asks -/
/-! 138 X9_doBack -/
set_option maxRecDepth 100000 in
theorem b138_0 {S : (Nat → Int32) × Nat} {t : qT} {D : qD} {Q : Int → qT → qD → Prop} (h :
wp S 134 0 [some (qs 28), some (qi 0)] [] t D (fun x1 t1 D1 =>
  (wp S 138 8 [some (qs 28), some (qi x1), some (qi 0), none] [] t1 D1 Q))) : wp S 138 0 [some (qs 28), none, none, none] [] t D Q := vc_ok (cuts := [8]) 600 0 _ _ _ _ h
set_option maxRecDepth 100000 in
theorem b138_8 {S : (Nat → Int32) × Nat} {t : qT} {D : qD} {Q : Int → qT → qD → Prop} {l1 l2 : Int} {o3 : Option qV} (h :
chk (qR l2)
(if l2 < 4 then
  (chk (0 ≤ l1 ∧ l1 < 110)
    (chk (0 ≤ (l1 + 1) ∧ (l1 + 1) < 110)
      (chk (0 ≤ (((40 * (D 42 l1)) + (4 * (D 42 (l1 + 1)))) + l2) ∧ (((40 * (D 42 l1)) + (4 * (D 42 (l1 + 1)))) + l2) < 120)
        (chk (qR (D 34 (((40 * (D 42 l1)) + (4 * (D 42 (l1 + 1)))) + l2)))
          (if (D 34 (((40 * (D 42 l1)) + (4 * (D 42 (l1 + 1)))) + l2)) = (-1) then
            (chk (0 ≤ (9 + l2) ∧ (9 + l2) < 110)
              (chk (0 ≤ (9 + l2) ∧ (9 + l2) < 110)
                (wp S 138 8 [some (qs 28), some (qi l1), some (qi (l2 + 1)), some (qi (D 34 (((40 * (D 42 l1)) + (4 * (D 42 (l1 + 1)))) + l2)))] [] t (up D 42 (9 + l2) (D 42 (9 + l2))) Q)))
            else
            (chk (0 ≤ ((l1 + 2) + (D 34 (((40 * (D 42 l1)) + (4 * (D 42 (l1 + 1)))) + l2))) ∧ ((l1 + 2) + (D 34 (((40 * (D 42 l1)) + (4 * (D 42 (l1 + 1)))) + l2))) < 110)
              (chk (0 ≤ (9 + l2) ∧ (9 + l2) < 110)
                (wp S 138 8 [some (qs 28), some (qi l1), some (qi (l2 + 1)), some (qi (D 34 (((40 * (D 42 l1)) + (4 * (D 42 (l1 + 1)))) + l2)))] [] t (up D 42 (9 + l2) (D 42 ((l1 + 2) + (D 34 (((40 * (D 42 l1)) + (4 * (D 42 (l1 + 1)))) + l2))))) Q))))))))
  else
  (Q 0 t (up D 42 13 ((D 42 13) - 1))))) : wp S 138 8 [some (qs 28), some (qi l1), some (qi l2), o3] [] t D Q := vc_ok (cuts := [8]) 600 8 _ _ _ _ h
/-! 139 X9_call -/
set_option maxRecDepth 100000 in
theorem b139_0 {S : (Nat → Int32) × Nat} {t : qT} {D : qD} {Q : Int → qT → qD → Prop} {l1 : Int} (h :
wp S 129 0 [some (qs 28), some (qi l1)] [] t D (fun x1 t1 D1 =>
  (chk (qR x1)
    (if x1 = 0 then
      (Q (-101) t1 D1)
      else
      (wp S 133 0 [some (qs 28)] [] t1 D1 (fun x2 t2 D2 =>
          (chk (qR x2)
            (if x2 = 8 then
              (Q (-104) t2 D2)
              else
              (wp S 131 0 [some (qs 28), none] [] t2 D2 (fun _ t3 D3 =>
                  (wp S 136 0 [some (qs 28), some (qi l1), none, none] [] t3 D3 (fun _ t4 D4 =>
                      (wp S 133 0 [some (qs 28)] [] t4 D4 (fun x5 t5 D5 =>
                        (Q x5 t5 D5))))))))))))))) : wp S 139 0 [some (qs 28), some (qi l1)] [] t D Q := vc_ok (cuts := []) 600 0 _ _ _ _ h
/-! 140 X9_go -/
set_option maxRecDepth 100000 in
theorem b140_0 {S : (Nat → Int32) × Nat} {t : qT} {D : qD} {Q : Int → qT → qD → Prop} {l1 : Int} (h :
chk (qR l1)
(wp S 110 0 [some (ql l1), none, some (ql 1), none, some (ql 9), none] [] t D (fun x1 t1 D1 =>
    (chk (qR x1)
      (if x1 = 0 then
        (Q (-102) t1 D1)
        else
        (wp S 133 0 [some (qs 28)] [] t1 D1 (fun x2 t2 D2 =>
            (chk (qR x2)
              (if x2 = 0 then
                (Q (-103) t2 D2)
                else
                (wp S 134 0 [some (qs 28), some (qi 0)] [] t2 D2 (fun x3 t3 D3 =>
                    (chk (0 ≤ (x3 + 1) ∧ (x3 + 1) < 110)
                      (chk (qR ((D3 42 (x3 + 1)) + l1))
                        (if 9 < ((D3 42 (x3 + 1)) + l1) then
                        (Q (-103) t3 D3)
                        else
                        (wp S 131 0 [some (qs 28), none] [] t3 D3 (fun _ t4 D4 =>
                        (wp S 137 0 [some (qs 28), some (qi l1), none, none] [] t4 D4 (fun _ t5 D5 =>
                        (wp S 134 0 [some (qs 28), some (qi 0)] [] t5 D5 (fun x6 t6 D6 =>
                        (chk (0 ≤ (x6 + 1) ∧ (x6 + 1) < 110)
                        (Q (D6 42 (x6 + 1)) t6 D6)))))))))))))))))))))) : wp S 140 0 [some (qs 28), some (qi l1)] [] t D Q := vc_ok (cuts := []) 600 0 _ _ _ _ h
/-! 141 X9_set -/
set_option maxRecDepth 100000 in
theorem b141_0 {S : (Nat → Int32) × Nat} {t : qT} {D : qD} {Q : Int → qT → qD → Prop} {l1 l2 : Int} (h :
chk (qR l1)
(wp S 110 0 [some (ql l1), none, some (ql 0), none, some (ql 3), none] [] t D (fun x1 t1 D1 =>
    (chk (qR x1)
      (if x1 = 0 then
        (Q (-101) t1 D1)
        else
        (chk (qR l2)
          (wp S 110 0 [some (ql l2), none, some (ql 0), none, some (ql 999), none] [] t1 D1 (fun x2 t2 D2 =>
              (chk (qR x2)
                (if x2 = 0 then
                  (Q (-102) t2 D2)
                  else
                  (wp S 128 0 [some (qs 28)] [] t2 D2 (fun x3 t3 D3 =>
                      (chk (qR x3)
                        (if x3 = 0 then
                        (wp S 131 0 [some (qs 28), none] [] t3 D3 (fun _ t4 D4 =>
                        (chk (0 ≤ (9 + l1) ∧ (9 + l1) < 110)
                        (chk (0 ≤ (9 + l1) ∧ (9 + l1) < 110)
                        (Q (D4 42 (9 + l1)) t4 (up D4 42 (9 + l1) l2))))))
                        else
                        (Q (-103) t3 D3))))))))))))))) : wp S 141 0 [some (qs 28), some (qi l1), some (qi l2), none] [] t D Q := vc_ok (cuts := []) 600 0 _ _ _ _ h
/-! 142 X9_back -/
set_option maxRecDepth 100000 in
theorem b142_0 {S : (Nat → Int32) × Nat} {t : qT} {D : qD} {Q : Int → qT → qD → Prop} (h :
wp S 133 0 [some (qs 28)] [] t D (fun x1 t1 D1 =>
  (chk (qR x1)
    (if x1 = 0 then
      (Q (-103) t1 D1)
      else
      (wp S 131 0 [some (qs 28), none] [] t1 D1 (fun _ t2 D2 =>
          (wp S 138 0 [some (qs 28), none, none, none] [] t2 D2 (fun _ t3 D3 =>
              (wp S 133 0 [some (qs 28)] [] t3 D3 (fun x4 t4 D4 =>
                  (Q x4 t4 D4))))))))))) : wp S 142 0 [some (qs 28)] [] t D Q := vc_ok (cuts := []) 600 0 _ _ _ _ h
/-! 143 X9_isCatching -/
set_option maxRecDepth 100000 in
theorem b143_0 {S : (Nat → Int32) × Nat} {t : qT} {D : qD} {Q : Int → qT → qD → Prop} {l0 l1 l2 : Int} (h :
chk (qR l0)
(if l0 = 1 then
  (Q 1 t D)
  else
  (if l0 = 2 then
    (Q 0 t D)
    else
    (if l0 = 3 then
      (chk (qR l2)
        (chk (qR l1)
          (if l2 < l1 then
            (Q 0 t D)
            else
            (Q 1 t D))))
      else
      (chk (qR l2)
        (chk (qR l1)
          (if l2 = l1 then
            (Q 1 t D)
            else
            (Q 0 t D)))))))) : wp S 143 0 [some (qi l0), some (qi l1), some (qi l2)] [] t D Q := vc_ok (cuts := []) 600 0 _ _ _ _ h
/-! 144 X9_does -/
set_option maxRecDepth 100000 in
theorem b144_0 {S : (Nat → Int32) × Nat} {t : qT} {D : qD} {Q : Int → qT → qD → Prop} {l0 l1 l2 : Int} (h :
wp S 143 0 [some (qi l0), some (qi l1), some (qi l2)] [] t D (fun x1 t1 D1 =>
  (chk (qR x1)
    (if x1 = 0 then
      (chk (qR l0)
        (if l0 = 2 then
          (Q 2 t1 D1)
          else
          (chk (qR l0)
            (if l0 = 4 then
              (Q 2 t1 D1)
              else
              (Q 0 t1 D1)))))
      else
      (Q 1 t1 D1))))) : wp S 144 0 [some (qi l0), some (qi l1), some (qi l2)] [] t D Q := vc_ok (cuts := []) 600 0 _ _ _ _ h
/-! 145 X9_doesAt -/
set_option maxRecDepth 100000 in
theorem b145_0 {S : (Nat → Int32) × Nat} {t : qT} {D : qD} {Q : Int → qT → qD → Prop} {l1 l2 l3 l4 : Int} (h :
chk (qR l3)
(chk (0 ≤ (((15 * l1) + (5 * l2)) + 1) ∧ (((15 * l1) + (5 * l2)) + 1) < 45)
  (chk (qR (D 40 (((15 * l1) + (5 * l2)) + 1)))
    (chk (0 ≤ (((15 * l1) + (5 * l2)) + 2) ∧ (((15 * l1) + (5 * l2)) + 2) < 45)
      (chk (qR (D 40 (((15 * l1) + (5 * l2)) + 2)))
        (wp S 110 0 [some (ql l3), none, some (ql (D 40 (((15 * l1) + (5 * l2)) + 1))), none, some (ql (D 40 (((15 * l1) + (5 * l2)) + 2))), none] [] t D (fun x1 t1 D1 =>
            (chk (qR x1)
              (if x1 = 0 then
                (Q 0 t1 D1)
                else
                (chk (0 ≤ ((3 * l1) + l2) ∧ ((3 * l1) + l2) < 110)
                  (chk (0 ≤ (((15 * l1) + (5 * l2)) + 3) ∧ (((15 * l1) + (5 * l2)) + 3) < 45)
                    (wp S 144 0 [some (qi (D1 42 ((3 * l1) + l2))), some (qi (D1 40 (((15 * l1) + (5 * l2)) + 3))), some (qi l4)] [] t1 D1 (fun x2 t2 D2 =>
                        (Q x2 t2 D2)))))))))))))) : wp S 145 0 [some (qs 28), some (qi l1), some (qi l2), some (qi l3), some (qi l4), none] [] t D Q := vc_ok (cuts := []) 600 0 _ _ _ _ h
/-! 146 X9_layCatcher -/
set_option maxRecDepth 100000 in
theorem b146_0 {S : (Nat → Int32) × Nat} {t : qT} {D : qD} {Q : Int → qT → qD → Prop} {l1 : Int} (h :
wp S 146 17 [some (qs 28), some (qi l1), some (qi 0), none, none, none] [] t (up (up (up D 28 28 (-1)) 28 29 (-1)) 28 30 0) Q) : wp S 146 0 [some (qs 28), some (qi l1), none, none, none, none] [] t D Q := vc_ok (cuts := [17, 42]) 600 0 _ _ _ _ h
set_option maxRecDepth 100000 in
theorem b146_17 {S : (Nat → Int32) × Nat} {t : qT} {D : qD} {Q : Int → qT → qD → Prop} {l1 l2 : Int} {o3 o4 o5 : Option qV} (h :
wp S 133 0 [some (qs 28)] [] t D (fun x1 t1 D1 =>
  (chk (qR l2)
    (chk (qR x1)
      (if l2 < x1 then
        (chk (qR (D1 28 28))
          (if (D1 28 28) = (-1) then
            (wp S 134 0 [some (qs 28), some (qi l2)] [] t1 D1 (fun x2 t2 D2 =>
                (wp S 146 42 [some (qs 28), some (qi l1), some (qi l2), some (qi x2), some (qi 0), o5] [] t2 D2 Q)))
            else
            (Q 0 t1 D1)))
        else
        (Q 0 t1 D1)))))) : wp S 146 17 [some (qs 28), some (qi l1), some (qi l2), o3, o4, o5] [] t D Q := vc_ok (cuts := [17, 42]) 600 17 _ _ _ _ h
set_option maxRecDepth 100000 in
theorem b146_42 {S : (Nat → Int32) × Nat} {t : qT} {D : qD} {Q : Int → qT → qD → Prop} {l1 l2 l3 l4 : Int} {o5 : Option qV} (h :
chk (0 ≤ l3 ∧ l3 < 110)
(chk (0 ≤ (D 42 l3) ∧ (D 42 l3) < 3)
  (chk (qR l4)
    (chk (qR (D 38 (D 42 l3)))
      (if l4 < (D 38 (D 42 l3)) then
        (chk (qR (D 28 28))
          (if (D 28 28) = (-1) then
            (chk (0 ≤ l3 ∧ l3 < 110)
              (chk (0 ≤ (l3 + 1) ∧ (l3 + 1) < 110)
                (wp S 145 0 [some (qs 28), some (qi (D 42 l3)), some (qi l4), some (qi (D 42 (l3 + 1))), some (qi l1), none] [] t D (fun x1 t1 D1 =>
                    (chk (qR x1)
                      (if x1 = 2 then
                        (chk (qR x1)
                        (if x1 = 1 then
                        (wp S 146 42 [some (qs 28), some (qi l1), some (qi l2), some (qi l3), some (qi (l4 + 1)), some (qi x1)] [] t1 (up (up (up D1 28 30 ((D1 28 30) + 1)) 28 28 l2) 28 29 l4) Q)
                        else
                        (wp S 146 42 [some (qs 28), some (qi l1), some (qi l2), some (qi l3), some (qi (l4 + 1)), some (qi x1)] [] t1 (up D1 28 30 ((D1 28 30) + 1)) Q)))
                        else
                        (chk (qR x1)
                        (if x1 = 1 then
                        (wp S 146 42 [some (qs 28), some (qi l1), some (qi l2), some (qi l3), some (qi (l4 + 1)), some (qi x1)] [] t1 (up (up (up D1 28 30 ((D1 28 30) + 0)) 28 28 l2) 28 29 l4) Q)
                        else
                        (wp S 146 42 [some (qs 28), some (qi l1), some (qi l2), some (qi l3), some (qi (l4 + 1)), some (qi x1)] [] t1 (up D1 28 30 ((D1 28 30) + 0)) Q)))))))))
            else
            (wp S 146 17 [some (qs 28), some (qi l1), some (qi (l2 + 1)), some (qi l3), some (qi l4), o5] [] t D Q)))
        else
        (wp S 146 17 [some (qs 28), some (qi l1), some (qi (l2 + 1)), some (qi l3), some (qi l4), o5] [] t D Q)))))) : wp S 146 42 [some (qs 28), some (qi l1), some (qi l2), some (qi l3), some (qi l4), o5] [] t D Q := vc_ok (cuts := [17, 42]) 600 42 _ _ _ _ h
/-! 147 X9_searchOf -/
set_option maxRecDepth 100000 in
theorem b147_0 {S : (Nat → Int32) × Nat} {t : qT} {D : qD} {Q : Int → qT → qD → Prop} {l1 l2 : Int} (h :
wp S 146 0 [some (qs 28), some (qi l1), none, none, none, none] [] t D (fun _ t1 D1 =>
  (chk (qR (D1 28 28))
    (if (D1 28 28) = (-1) then
      (Q (-1) t1 D1)
      else
      (chk (qR l2)
        (if l2 = 0 then
          (Q (D1 28 28) t1 D1)
          else
          (chk (qR l2)
            (if l2 = 1 then
              (Q (D1 28 29) t1 D1)
              else
              (Q (D1 28 30) t1 D1))))))))) : wp S 147 0 [some (qs 28), some (qi l1), some (qi l2)] [] t D Q := vc_ok (cuts := []) 600 0 _ _ _ _ h
/-! 148 X9_search -/
set_option maxRecDepth 100000 in
theorem b148_0 {S : (Nat → Int32) × Nat} {t : qT} {D : qD} {Q : Int → qT → qD → Prop} {l1 l2 : Int} (h :
chk (qR l1)
(wp S 110 0 [some (ql l1), none, some (ql 0), none, some (ql 4), none] [] t D (fun x1 t1 D1 =>
    (chk (qR x1)
      (if x1 = 0 then
        (Q (-102) t1 D1)
        else
        (chk (qR l2)
          (wp S 110 0 [some (ql l2), none, some (ql 0), none, some (ql 2), none] [] t1 D1 (fun x2 t2 D2 =>
              (chk (qR x2)
                (if x2 = 0 then
                  (Q (-102) t2 D2)
                  else
                  (wp S 128 0 [some (qs 28)] [] t2 D2 (fun x3 t3 D3 =>
                      (chk (qR x3)
                        (if x3 = 0 then
                        (wp S 147 0 [some (qs 28), some (qi l1), some (qi l2)] [] t3 D3 (fun x4 t4 D4 =>
                        (Q x4 t4 D4)))
                        else
                        (Q (-103) t3 D3))))))))))))))) : wp S 148 0 [some (qs 28), some (qi l1), some (qi l2)] [] t D Q := vc_ok (cuts := []) 600 0 _ _ _ _ h
/-! 149 X9_finish -/
set_option maxRecDepth 100000 in
theorem b149_0 {S : (Nat → Int32) × Nat} {t : qT} {D : qD} {Q : Int → qT → qD → Prop} {l1 l2 : Int} (h :
wp S 134 0 [some (qs 28), some (qi 0)] [] t D (fun x1 t1 D1 =>
  (wp S 149 9 [some (qs 28), some (qi l1), some (qi l2), some (qi x1), some (qi 0)] [] t1 D1 Q))) : wp S 149 0 [some (qs 28), some (qi l1), some (qi l2), none, none] [] t D Q := vc_ok (cuts := [9]) 600 0 _ _ _ _ h
set_option maxRecDepth 100000 in
theorem b149_9 {S : (Nat → Int32) × Nat} {t : qT} {D : qD} {Q : Int → qT → qD → Prop} {l1 l2 l3 l4 : Int} (h :
chk (qR l4)
(chk (qR l2)
  (if l4 < l2 then
    (chk (0 ≤ l3 ∧ l3 < 110)
      (chk (0 ≤ (l3 + 1) ∧ (l3 + 1) < 110)
        (wp S 145 0 [some (qs 28), some (qi (D 42 l3)), some (qi l4), some (qi (D 42 (l3 + 1))), some (qi l1), none] [] t D (fun x1 t1 D1 =>
            (chk (qR x1)
              (if x1 = 2 then
                (chk (0 ≤ l3 ∧ l3 < 110)
                  (chk (0 ≤ (79 + (D1 42 78)) ∧ (79 + (D1 42 78)) < 110)
                    (wp S 149 9 [some (qs 28), some (qi l1), some (qi l2), some (qi l3), some (qi (l4 + 1))] [] t1 (up (up D1 42 (79 + (D1 42 78)) ((10 * (D1 42 l3)) + l4)) 42 78 (((up D1 42 (79 + (D1 42 78)) ((10 * (D1 42 l3)) + l4)) 42 78) + 1)) Q)))
                else
                (wp S 149 9 [some (qs 28), some (qi l1), some (qi l2), some (qi l3), some (qi (l4 + 1))] [] t1 D1 Q)))))))
    else
    (Q 0 t D)))) : wp S 149 9 [some (qs 28), some (qi l1), some (qi l2), some (qi l3), some (qi l4)] [] t D Q := vc_ok (cuts := [9]) 600 9 _ _ _ _ h
/-! 150 X9_doRaise -/
set_option maxRecDepth 100000 in
theorem b150_0 {S : (Nat → Int32) × Nat} {t : qT} {D : qD} {Q : Int → qT → qD → Prop} {l1 : Int} (h :
wp S 150 15 [some (qs 28), some (qi l1), some (qi (D 28 28)), some (qi 0)] [] t (up D 42 78 0) Q) : wp S 150 0 [some (qs 28), some (qi l1), none, none] [] t D Q := vc_ok (cuts := [15]) 600 0 _ _ _ _ h
set_option maxRecDepth 100000 in
theorem b150_15 {S : (Nat → Int32) × Nat} {t : qT} {D : qD} {Q : Int → qT → qD → Prop} {l1 l2 l3 : Int} (h :
chk (qR l3)
(chk (qR l2)
  (if l3 < l2 then
    (wp S 134 0 [some (qs 28), some (qi 0)] [] t D (fun x1 t1 D1 =>
        (chk (0 ≤ x1 ∧ x1 < 110)
          (chk (0 ≤ (D1 42 x1) ∧ (D1 42 x1) < 3)
            (wp S 149 0 [some (qs 28), some (qi l1), some (qi (D1 38 (D1 42 x1))), none, none] [] t1 D1 (fun _ t2 D2 =>
                (wp S 138 0 [some (qs 28), none, none, none] [] t2 D2 (fun _ t3 D3 =>
                    (wp S 150 15 [some (qs 28), some (qi l1), some (qi l2), some (qi (l3 + 1))] [] t3 D3 Q)))))))))
    else
    (wp S 149 0 [some (qs 28), some (qi l1), some (qi (D 28 29)), none, none] [] t D (fun _ t4 D4 =>
        (wp S 134 0 [some (qs 28), some (qi 0)] [] t4 D4 (fun x5 t5 D5 =>
            (chk (0 ≤ x5 ∧ x5 < 110)
              (chk (0 ≤ (((15 * (D5 42 x5)) + (5 * (D5 28 29))) + 4) ∧ (((15 * (D5 42 x5)) + (5 * (D5 28 29))) + 4) < 45)
                (chk (0 ≤ (x5 + 1) ∧ (x5 + 1) < 110)
                  (Q 0 t5 (up D5 42 (x5 + 1) (D5 40 (((15 * (D5 42 x5)) + (5 * (D5 28 29))) + 4)))))))))))))) : wp S 150 15 [some (qs 28), some (qi l1), some (qi l2), some (qi l3)] [] t D Q := vc_ok (cuts := [15]) 600 15 _ _ _ _ h
/-! 151 X9_raise -/
set_option maxRecDepth 100000 in
theorem b151_0 {S : (Nat → Int32) × Nat} {t : qT} {D : qD} {Q : Int → qT → qD → Prop} {l1 : Int} (h :
chk (qR l1)
(wp S 110 0 [some (ql l1), none, some (ql 0), none, some (ql 4), none] [] t D (fun x1 t1 D1 =>
    (chk (qR x1)
      (if x1 = 0 then
        (Q (-102) t1 D1)
        else
        (wp S 128 0 [some (qs 28)] [] t1 D1 (fun x2 t2 D2 =>
            (chk (qR x2)
              (if x2 = 0 then
                (wp S 146 0 [some (qs 28), some (qi l1), none, none, none, none] [] t2 D2 (fun _ t3 D3 =>
                    (chk (qR (D3 28 28))
                      (if (D3 28 28) = (-1) then
                        (Q (-1) t3 D3)
                        else
                        (wp S 131 0 [some (qs 28), none] [] t3 D3 (fun _ t4 D4 =>
                        (wp S 150 0 [some (qs 28), some (qi l1), none, none] [] t4 D4 (fun _ t5 D5 =>
                        (Q (D5 28 28) t5 D5)))))))))
                else
                (Q (-103) t2 D2)))))))))) : wp S 151 0 [some (qs 28), some (qi l1)] [] t D Q := vc_ok (cuts := []) 600 0 _ _ _ _ h
/-! 152 X9_looseOf -/
set_option maxRecDepth 100000 in
theorem b152_0 {S : (Nat → Int32) × Nat} {t : qT} {D : qD} {Q : Int → qT → qD → Prop} (h :
wp S 152 4 [some (qs 28), some (qi 0), some (qi 0)] [] t D Q) : wp S 152 0 [some (qs 28), none, none] [] t D Q := vc_ok (cuts := [4]) 600 0 _ _ _ _ h
set_option maxRecDepth 100000 in
theorem b152_4 {S : (Nat → Int32) × Nat} {t : qT} {D : qD} {Q : Int → qT → qD → Prop} {l1 l2 : Int} (h :
chk (qR l2)
(if l2 < 5 then
  (wp S 147 0 [some (qs 28), some (qi l2), some (qi 0)] [] t D (fun x1 t1 D1 =>
      (chk (qR x1)
        (if x1 = (-1) then
          (wp S 152 4 [some (qs 28), some (qi (qor l1 (qshl 1 l2))), some (qi (l2 + 1))] [] t1 D1 Q)
          else
          (wp S 152 4 [some (qs 28), some (qi (qor l1 0)), some (qi (l2 + 1))] [] t1 D1 Q)))))
  else
  (Q l1 t D))) : wp S 152 4 [some (qs 28), some (qi l1), some (qi l2)] [] t D Q := vc_ok (cuts := [4]) 600 4 _ _ _ _ h
/-! 153 X9_loose -/
set_option maxRecDepth 100000 in
theorem b153_0 {S : (Nat → Int32) × Nat} {t : qT} {D : qD} {Q : Int → qT → qD → Prop} (h :
wp S 128 0 [some (qs 28)] [] t D (fun x1 t1 D1 =>
  (chk (qR x1)
    (if x1 = 0 then
      (wp S 152 0 [some (qs 28), none, none] [] t1 D1 (fun x2 t2 D2 =>
          (Q x2 t2 D2)))
      else
      (Q (-103) t1 D1))))) : wp S 153 0 [some (qs 28)] [] t D Q := vc_ok (cuts := []) 600 0 _ _ _ _ h
/-! 154 X9_finished -/
set_option maxRecDepth 100000 in
theorem b154_0 {S : (Nat → Int32) × Nat} {t : qT} {D : qD} {Q : Int → qT → qD → Prop} {l1 : Int} (h :
chk (qR l1)
(if l1 = (-1) then
  (Q (D 42 78) t D)
  else
  (chk (qR l1)
    (chk (qR ((D 42 78) - 1))
      (wp S 110 0 [some (ql l1), none, some (ql 0), none, some (ql ((D 42 78) - 1)), none] [] t D (fun x1 t1 D1 =>
          (chk (qR x1)
            (if x1 = 0 then
              (Q (-101) t1 D1)
              else
              (chk (0 ≤ (79 + l1) ∧ (79 + l1) < 110)
                (Q (D1 42 (79 + l1)) t1 D1)))))))))) : wp S 154 0 [some (qs 28), some (qi l1)] [] t D Q := vc_ok (cuts := []) 600 0 _ _ _ _ h
/-! 155 X9_change -/
set_option maxRecDepth 100000 in
theorem b155_0 {S : (Nat → Int32) × Nat} {t : qT} {D : qD} {Q : Int → qT → qD → Prop} {l1 l2 l3 : Int} (h :
wp S 130 0 [some (qs 28), some (qi l1), some (qi l2)] [] t D (fun x1 t1 D1 =>
  (chk (qR x1)
    (if x1 = 0 then
      (Q (-101) t1 D1)
      else
      (chk (qR l3)
        (wp S 110 0 [some (ql l3), none, some (ql 0), none, some (ql 4), none] [] t1 D1 (fun x2 t2 D2 =>
            (chk (qR x2)
              (if x2 = 0 then
                (Q (-102) t2 D2)
                else
                (wp S 131 0 [some (qs 28), none] [] t2 D2 (fun _ t3 D3 =>
                    (chk (0 ≤ ((3 * l1) + l2) ∧ ((3 * l1) + l2) < 110)
                      (chk (0 ≤ ((3 * l1) + l2) ∧ ((3 * l1) + l2) < 110)
                        (Q (D3 42 ((3 * l1) + l2)) t3 (up D3 42 ((3 * l1) + l2) l3))))))))))))))) : wp S 155 0 [some (qs 28), some (qi l1), some (qi l2), some (qi l3), none] [] t D Q := vc_ok (cuts := []) 600 0 _ _ _ _ h
/-! 156 X9_tellRow -/
set_option maxRecDepth 100000 in
theorem b156_0 {S : (Nat → Int32) × Nat} {t : qT} {D : qD} {Q : Int → qT → qD → Prop} {l1 l2 l3 : Int} (h :
chk (qR l3)
(if l3 = 4 then
  (chk (0 ≤ ((10 * l1) + l2) ∧ ((10 * l1) + l2) < 30)
    (Q (D 35 ((10 * l1) + l2)) t D))
  else
  (if l3 = 5 then
    (chk (0 ≤ ((10 * l1) + l2) ∧ ((10 * l1) + l2) < 30)
      (Q (D 36 ((10 * l1) + l2)) t D))
    else
    (chk (0 ≤ (((40 * l1) + (4 * l2)) + l3) ∧ (((40 * l1) + (4 * l2)) + l3) < 120)
      (Q (D 34 (((40 * l1) + (4 * l2)) + l3)) t D))))) : wp S 156 0 [some (qs 28), some (qi l1), some (qi l2), some (qi l3)] [] t D Q := vc_ok (cuts := []) 600 0 _ _ _ _ h
/-! 157 X9_row -/
set_option maxRecDepth 100000 in
theorem b157_0 {S : (Nat → Int32) × Nat} {t : qT} {D : qD} {Q : Int → qT → qD → Prop} {l1 l2 l3 : Int} (h :
wp S 129 0 [some (qs 28), some (qi l1)] [] t D (fun x1 t1 D1 =>
  (chk (qR x1)
    (if x1 = 0 then
      (Q (-101) t1 D1)
      else
      (chk (qR l2)
        (wp S 110 0 [some (ql l2), none, some (ql 0), none, some (ql 9), none] [] t1 D1 (fun x2 t2 D2 =>
            (chk (qR x2)
              (if x2 = 0 then
                (Q (-101) t2 D2)
                else
                (chk (qR l3)
                  (wp S 110 0 [some (ql l3), none, some (ql 0), none, some (ql 5), none] [] t2 D2 (fun x3 t3 D3 =>
                      (chk (qR x3)
                        (if x3 = 0 then
                        (Q (-102) t3 D3)
                        else
                        (wp S 156 0 [some (qs 28), some (qi l1), some (qi l2), some (qi l3)] [] t3 D3 (fun x4 t4 D4 =>
                        (Q x4 t4 D4))))))))))))))))) : wp S 157 0 [some (qs 28), some (qi l1), some (qi l2), some (qi l3)] [] t D Q := vc_ok (cuts := []) 600 0 _ _ _ _ h
/-! 158 X9_tellPad -/
set_option maxRecDepth 100000 in
theorem b158_0 {S : (Nat → Int32) × Nat} {t : qT} {D : qD} {Q : Int → qT → qD → Prop} {l1 l2 l3 : Int} (h :
chk (qR l3)
(if l3 = 0 then
  (chk (0 ≤ ((3 * l1) + l2) ∧ ((3 * l1) + l2) < 110)
    (Q (D 42 ((3 * l1) + l2)) t D))
  else
  (if l3 = 1 then
    (chk (0 ≤ (((15 * l1) + (5 * l2)) + l3) ∧ (((15 * l1) + (5 * l2)) + l3) < 45)
      (Q (D 40 (((15 * l1) + (5 * l2)) + l3)) t D))
    else
    (if l3 = 2 then
      (chk (0 ≤ (((15 * l1) + (5 * l2)) + l3) ∧ (((15 * l1) + (5 * l2)) + l3) < 45)
        (Q (D 40 (((15 * l1) + (5 * l2)) + l3)) t D))
      else
      (if l3 = 3 then
        (chk (0 ≤ (((15 * l1) + (5 * l2)) + l3) ∧ (((15 * l1) + (5 * l2)) + l3) < 45)
          (Q (D 40 (((15 * l1) + (5 * l2)) + l3)) t D))
        else
        (if l3 = 4 then
          (chk (0 ≤ (((15 * l1) + (5 * l2)) + l3) ∧ (((15 * l1) + (5 * l2)) + l3) < 45)
            (Q (D 40 (((15 * l1) + (5 * l2)) + l3)) t D))
          else
          (if l3 = 5 then
            (wp S 168 0 [some (qs 28), some (qi l1), some (qi l2), none, none, none, none, none, none] [] t D (fun x1 t1 D1 =>
                (Q x1 t1 D1)))
            else
            (if l3 = 6 then
              (wp S 169 0 [some (qs 28), some (qi l1), some (qi l2), none, none, none, none, none, none, none, none, none] [] t D (fun x2 t2 D2 =>
                  (Q x2 t2 D2)))
              else
              (Q (-102) t D))))))))) : wp S 158 0 [some (qs 28), some (qi l1), some (qi l2), some (qi l3)] [] t D Q := vc_ok (cuts := []) 600 0 _ _ _ _ h
/-! 159 X9_pad -/
set_option maxRecDepth 100000 in
theorem b159_0 {S : (Nat → Int32) × Nat} {t : qT} {D : qD} {Q : Int → qT → qD → Prop} {l1 l2 l3 : Int} (h :
wp S 130 0 [some (qs 28), some (qi l1), some (qi l2)] [] t D (fun x1 t1 D1 =>
  (chk (qR x1)
    (if x1 = 0 then
      (Q (-101) t1 D1)
      else
      (wp S 158 0 [some (qs 28), some (qi l1), some (qi l2), some (qi l3)] [] t1 D1 (fun x2 t2 D2 =>
          (Q x2 t2 D2))))))) : wp S 159 0 [some (qs 28), some (qi l1), some (qi l2), some (qi l3)] [] t D Q := vc_ok (cuts := []) 600 0 _ _ _ _ h
/-! 160 X9_as -/
set_option maxRecDepth 100000 in
theorem b160_0 {S : (Nat → Int32) × Nat} {t : qT} {D : qD} {Q : Int → qT → qD → Prop} {l1 l2 l3 : Int} (h :
wp S 130 0 [some (qs 28), some (qi l1), some (qi l2)] [] t D (fun x1 t1 D1 =>
  (chk (qR x1)
    (if x1 = 0 then
      (Q (-101) t1 D1)
      else
      (chk (qR l3)
        (wp S 110 0 [some (ql l3), none, some (ql 0), none, some (ql 4), none] [] t1 D1 (fun x2 t2 D2 =>
            (chk (qR x2)
              (if x2 = 0 then
                (Q (-102) t2 D2)
                else
                (chk (0 ≤ ((3 * l1) + l2) ∧ ((3 * l1) + l2) < 110)
                  (chk (qR l3)
                    (if l3 = 0 then
                      (Q l2 t2 D2)
                      else
                      (chk (qR l3)
                        (chk (qR (D2 42 ((3 * l1) + l2)))
                        (if l3 = (D2 42 ((3 * l1) + l2)) then
                        (Q l2 t2 D2)
                        else
                        (chk (qR l3)
                        (if l3 = 2 then
                        (chk (qR (D2 42 ((3 * l1) + l2)))
                        (if (D2 42 ((3 * l1) + l2)) = 4 then
                        (Q l2 t2 D2)
                        else
                        (Q (-1) t2 D2)))
                        else
                        (Q (-1) t2 D2)))))))))))))))))) : wp S 160 0 [some (qs 28), some (qi l1), some (qi l2), some (qi l3), none] [] t D Q := vc_ok (cuts := []) 600 0 _ _ _ _ h
/-! 161 X9_callerOf -/
set_option maxRecDepth 100000 in
theorem b161_0 {S : (Nat → Int32) × Nat} {t : qT} {D : qD} {Q : Int → qT → qD → Prop} {l1 l2 : Int} (h :
chk (0 ≤ (9 + l2) ∧ (9 + l2) < 110)
(wp S 161 13 [some (qs 28), some (qi l1), some (qi l2), some (qi (D 42 (9 + l2))), some (qi 0), none, none] [] t D Q)) : wp S 161 0 [some (qs 28), some (qi l1), some (qi l2), none, none, none, none] [] t D Q := vc_ok (cuts := [13]) 600 0 _ _ _ _ h
set_option maxRecDepth 100000 in
theorem b161_13 {S : (Nat → Int32) × Nat} {t : qT} {D : qD} {Q : Int → qT → qD → Prop} {l1 l2 l3 l4 : Int} {o5 o6 : Option qV} (h :
chk (qR l4)
(chk (qR l1)
  (if l1 < l4 then
    (Q l3 t D)
    else
    (wp S 134 0 [some (qs 28), some (qi l4)] [] t D (fun x1 t1 D1 =>
        (chk (0 ≤ x1 ∧ x1 < 110)
          (chk (0 ≤ (x1 + 1) ∧ (x1 + 1) < 110)
            (chk (0 ≤ (((40 * (D1 42 x1)) + (4 * (D1 42 (x1 + 1)))) + l2) ∧ (((40 * (D1 42 x1)) + (4 * (D1 42 (x1 + 1)))) + l2) < 120)
              (chk (qR (D1 34 (((40 * (D1 42 x1)) + (4 * (D1 42 (x1 + 1)))) + l2)))
                (if (D1 34 (((40 * (D1 42 x1)) + (4 * (D1 42 (x1 + 1)))) + l2)) = (-1) then
                  (wp S 161 13 [some (qs 28), some (qi l1), some (qi l2), some (qi l3), some (qi (l4 + 1)), some (qi x1), some (qi (D1 34 (((40 * (D1 42 x1)) + (4 * (D1 42 (x1 + 1)))) + l2)))] [] t1 D1 Q)
                  else
                  (chk (0 ≤ ((x1 + 2) + (D1 34 (((40 * (D1 42 x1)) + (4 * (D1 42 (x1 + 1)))) + l2))) ∧ ((x1 + 2) + (D1 34 (((40 * (D1 42 x1)) + (4 * (D1 42 (x1 + 1)))) + l2))) < 110)
                    (wp S 161 13 [some (qs 28), some (qi l1), some (qi l2), some (qi (D1 42 ((x1 + 2) + (D1 34 (((40 * (D1 42 x1)) + (4 * (D1 42 (x1 + 1)))) + l2))))), some (qi (l4 + 1)), some (qi x1), some (qi (D1 34 (((40 * (D1 42 x1)) + (4 * (D1 42 (x1 + 1)))) + l2)))] [] t1 D1 Q)))))))))))) : wp S 161 13 [some (qs 28), some (qi l1), some (qi l2), some (qi l3), some (qi l4), o5, o6] [] t D Q := vc_ok (cuts := [13]) 600 13 _ _ _ _ h
/-! 162 X9_tellFrame -/
set_option maxRecDepth 100000 in
theorem b162_0 {S : (Nat → Int32) × Nat} {t : qT} {D : qD} {Q : Int → qT → qD → Prop} {l1 l2 : Int} (h :
chk (qR l2)
(if l2 < 8 then
  (wp S 134 0 [some (qs 28), some (qi l1)] [] t D (fun x1 t1 D1 =>
      (chk (0 ≤ (x1 + l2) ∧ (x1 + l2) < 110)
        (Q (D1 42 (x1 + l2)) t1 D1))))
  else
  (wp S 161 0 [some (qs 28), some (qi l1), some (qi (l2 - 8)), none, none, none, none] [] t D (fun x2 t2 D2 =>
      (Q x2 t2 D2))))) : wp S 162 0 [some (qs 28), some (qi l1), some (qi l2)] [] t D Q := vc_ok (cuts := []) 600 0 _ _ _ _ h
/-! 163 X9_frame -/
set_option maxRecDepth 100000 in
theorem b163_0 {S : (Nat → Int32) × Nat} {t : qT} {D : qD} {Q : Int → qT → qD → Prop} {l1 l2 : Int} (h :
chk (qR l1)
(wp S 133 0 [some (qs 28)] [] t D (fun x1 t1 D1 =>
    (chk (qR (x1 - 1))
      (wp S 110 0 [some (ql l1), none, some (ql 0), none, some (ql (x1 - 1)), none] [] t1 D1 (fun x2 t2 D2 =>
          (chk (qR x2)
            (if x2 = 0 then
              (Q (-101) t2 D2)
              else
              (chk (qR l2)
                (wp S 110 0 [some (ql l2), none, some (ql 0), none, some (ql 11), none] [] t2 D2 (fun x3 t3 D3 =>
                    (chk (qR x3)
                      (if x3 = 0 then
                        (Q (-102) t3 D3)
                        else
                        (wp S 162 0 [some (qs 28), some (qi l1), some (qi l2)] [] t3 D3 (fun x4 t4 D4 =>
                        (Q x4 t4 D4)))))))))))))))) : wp S 163 0 [some (qs 28), some (qi l1), some (qi l2)] [] t D Q := vc_ok (cuts := []) 600 0 _ _ _ _ h
/-! 164 X9_register -/
set_option maxRecDepth 100000 in
theorem b164_0 {S : (Nat → Int32) × Nat} {t : qT} {D : qD} {Q : Int → qT → qD → Prop} {l1 : Int} (h :
chk (qR l1)
(wp S 110 0 [some (ql l1), none, some (ql 0), none, some (ql 3), none] [] t D (fun x1 t1 D1 =>
    (chk (qR x1)
      (if x1 = 0 then
        (Q (-101) t1 D1)
        else
        (chk (0 ≤ (9 + l1) ∧ (9 + l1) < 110)
          (Q (D1 42 (9 + l1)) t1 D1))))))) : wp S 164 0 [some (qs 28), some (qi l1)] [] t D Q := vc_ok (cuts := []) 600 0 _ _ _ _ h
/-! 165 X9_same -/
set_option maxRecDepth 100000 in
theorem b165_0 {S : (Nat → Int32) × Nat} {t : qT} {D : qD} {Q : Int → qT → qD → Prop} {l1 l2 : Int} (h :
wp S 129 0 [some (qs 28), some (qi l1)] [] t D (fun x1 t1 D1 =>
  (chk (qR x1)
    (if x1 = 0 then
      (Q (-101) t1 D1)
      else
      (wp S 129 0 [some (qs 28), some (qi l2)] [] t1 D1 (fun x2 t2 D2 =>
          (chk (qR x2)
            (if x2 = 0 then
              (Q (-101) t2 D2)
              else
              (wp S 165 24 [some (qs 28), some (qi l1), some (qi l2), some (qi 1), some (qi 0)] [] t2 D2 Q))))))))) : wp S 165 0 [some (qs 28), some (qi l1), some (qi l2), none, none] [] t D Q := vc_ok (cuts := [24]) 600 0 _ _ _ _ h
set_option maxRecDepth 100000 in
theorem b165_24 {S : (Nat → Int32) × Nat} {t : qT} {D : qD} {Q : Int → qT → qD → Prop} {l1 l2 l3 l4 : Int} (h :
chk (qR l4)
(if l4 < 40 then
  (chk (qR l3)
    (if l3 = 0 then
      (wp S 165 24 [some (qs 28), some (qi l1), some (qi l2), some (qi 0), some (qi (l4 + 1))] [] t D Q)
      else
      (chk (0 ≤ ((40 * l1) + l4) ∧ ((40 * l1) + l4) < 120)
        (chk (0 ≤ ((40 * l2) + l4) ∧ ((40 * l2) + l4) < 120)
          (chk (qR (D 34 ((40 * l1) + l4)))
            (chk (qR (D 34 ((40 * l2) + l4)))
              (if (D 34 ((40 * l1) + l4)) = (D 34 ((40 * l2) + l4)) then
                (wp S 165 24 [some (qs 28), some (qi l1), some (qi l2), some (qi 1), some (qi (l4 + 1))] [] t D Q)
                else
                (wp S 165 24 [some (qs 28), some (qi l1), some (qi l2), some (qi 0), some (qi (l4 + 1))] [] t D Q))))))))
  else
  (chk (qR l3)
    (if l3 = 0 then
      (Q 0 t D)
      else
      (Q 1 t D))))) : wp S 165 24 [some (qs 28), some (qi l1), some (qi l2), some (qi l3), some (qi l4)] [] t D Q := vc_ok (cuts := [24]) 600 24 _ _ _ _ h
/-! 166 X9_see -/
set_option maxRecDepth 100000 in
theorem b166_0 {S : (Nat → Int32) × Nat} {t : qT} {D : qD} {Q : Int → qT → qD → Prop} {l1 l2 l3 l4 : Int} (h :
wp S 130 0 [some (qs 28), some (qi l1), some (qi l2)] [] t D (fun x1 t1 D1 =>
  (chk (qR x1)
    (if x1 = 0 then
      (Q (-101) t1 D1)
      else
      (chk (qR l3)
        (wp S 110 0 [some (ql l3), none, some (ql 0), none, some (ql 4), none] [] t1 D1 (fun x2 t2 D2 =>
            (chk (qR x2)
              (if x2 = 0 then
                (Q (-102) t2 D2)
                else
                (chk (qR l4)
                  (wp S 110 0 [some (ql l4), none, some (ql 0), none, some (ql 2), none] [] t2 D2 (fun x3 t3 D3 =>
                      (chk (qR x3)
                        (if x3 = 0 then
                        (Q (-102) t3 D3)
                        else
                        (chk (qR (D3 28 31))
                        (if (D3 28 31) = 6 then
                        (Q (-104) t3 D3)
                        else
                        (chk (0 ≤ (4 * (D3 28 31)) ∧ (4 * (D3 28 31)) < 24)
                        (chk (0 ≤ ((4 * ((up D3 44 (4 * (D3 28 31)) l1) 28 31)) + 1) ∧ ((4 * ((up D3 44 (4 * (D3 28 31)) l1) 28 31)) + 1) < 24)
                        (chk (0 ≤ ((4 * ((up (up D3 44 (4 * (D3 28 31)) l1) 44 ((4 * ((up D3 44 (4 * (D3 28 31)) l1) 28 31)) + 1) l2) 28 31)) + 2) ∧ ((4 * ((up (up D3 44 (4 * (D3 28 31)) l1) 44 ((4 * ((up D3 44 (4 * (D3 28 31)) l1) 28 31)) + 1) l2) 28 31)) + 2) < 24)
                        (chk (0 ≤ ((4 * ((up (up (up D3 44 (4 * (D3 28 31)) l1) 44 ((4 * ((up D3 44 (4 * (D3 28 31)) l1) 28 31)) + 1) l2) 44 ((4 * ((up (up D3 44 (4 * (D3 28 31)) l1) 44 ((4 * ((up D3 44 (4 * (D3 28 31)) l1) 28 31)) + 1) l2) 28 31)) + 2) l3) 28 31)) + 3) ∧ ((4 * ((up (up (up D3 44 (4 * (D3 28 31)) l1) 44 ((4 * ((up D3 44 (4 * (D3 28 31)) l1) 28 31)) + 1) l2) 44 ((4 * ((up (up D3 44 (4 * (D3 28 31)) l1) 44 ((4 * ((up D3 44 (4 * (D3 28 31)) l1) 28 31)) + 1) l2) 28 31)) + 2) l3) 28 31)) + 3) < 24)
                        (Q (((up (up (up (up D3 44 (4 * (D3 28 31)) l1) 44 ((4 * ((up D3 44 (4 * (D3 28 31)) l1) 28 31)) + 1) l2) 44 ((4 * ((up (up D3 44 (4 * (D3 28 31)) l1) 44 ((4 * ((up D3 44 (4 * (D3 28 31)) l1) 28 31)) + 1) l2) 28 31)) + 2) l3) 44 ((4 * ((up (up (up D3 44 (4 * (D3 28 31)) l1) 44 ((4 * ((up D3 44 (4 * (D3 28 31)) l1) 28 31)) + 1) l2) 44 ((4 * ((up (up D3 44 (4 * (D3 28 31)) l1) 44 ((4 * ((up D3 44 (4 * (D3 28 31)) l1) 28 31)) + 1) l2) 28 31)) + 2) l3) 28 31)) + 3) l4) 28 31) + 1) t3 (up (up (up (up (up D3 44 (4 * (D3 28 31)) l1) 44 ((4 * ((up D3 44 (4 * (D3 28 31)) l1) 28 31)) + 1) l2) 44 ((4 * ((up (up D3 44 (4 * (D3 28 31)) l1) 44 ((4 * ((up D3 44 (4 * (D3 28 31)) l1) 28 31)) + 1) l2) 28 31)) + 2) l3) 44 ((4 * ((up (up (up D3 44 (4 * (D3 28 31)) l1) 44 ((4 * ((up D3 44 (4 * (D3 28 31)) l1) 28 31)) + 1) l2) 44 ((4 * ((up (up D3 44 (4 * (D3 28 31)) l1) 44 ((4 * ((up D3 44 (4 * (D3 28 31)) l1) 28 31)) + 1) l2) 28 31)) + 2) l3) 28 31)) + 3) l4) 28 31 (((up (up (up (up D3 44 (4 * (D3 28 31)) l1) 44 ((4 * ((up D3 44 (4 * (D3 28 31)) l1) 28 31)) + 1) l2) 44 ((4 * ((up (up D3 44 (4 * (D3 28 31)) l1) 44 ((4 * ((up D3 44 (4 * (D3 28 31)) l1) 28 31)) + 1) l2) 28 31)) + 2) l3) 44 ((4 * ((up (up (up D3 44 (4 * (D3 28 31)) l1) 44 ((4 * ((up D3 44 (4 * (D3 28 31)) l1) 28 31)) + 1) l2) 44 ((4 * ((up (up D3 44 (4 * (D3 28 31)) l1) 44 ((4 * ((up D3 44 (4 * (D3 28 31)) l1) 28 31)) + 1) l2) 28 31)) + 2) l3) 28 31)) + 3) l4) 28 31) + 1))))))))))))))))))))))) : wp S 166 0 [some (qs 28), some (qi l1), some (qi l2), some (qi l3), some (qi l4)] [] t D Q := vc_ok (cuts := []) 600 0 _ _ _ _ h
/-! 167 X9_forget -/
set_option maxRecDepth 100000 in
theorem b167_0 {S : (Nat → Int32) × Nat} {t : qT} {D : qD} {Q : Int → qT → qD → Prop} (h :
Q (D 28 31) t (up D 28 31 0)) : wp S 167 0 [some (qs 28), none] [] t D Q := vc_ok (cuts := []) 600 0 _ _ _ _ h
/-! 168 X9_sortsOf -/
set_option maxRecDepth 100000 in
theorem b168_0 {S : (Nat → Int32) × Nat} {t : qT} {D : qD} {Q : Int → qT → qD → Prop} {l1 l2 : Int} (h :
chk (0 ≤ (((15 * l1) + (5 * l2)) + 3) ∧ (((15 * l1) + (5 * l2)) + 3) < 45)
(wp S 168 22 [some (qs 28), some (qi l1), some (qi l2), some (qi (D 40 (((15 * l1) + (5 * l2)) + 3))), some (qi 0), some (qi 0), none, none, none] [] t D Q)) : wp S 168 0 [some (qs 28), some (qi l1), some (qi l2), none, none, none, none, none, none] [] t D Q := vc_ok (cuts := [22, 34]) 600 0 _ _ _ _ h
set_option maxRecDepth 100000 in
theorem b168_22 {S : (Nat → Int32) × Nat} {t : qT} {D : qD} {Q : Int → qT → qD → Prop} {l1 l2 l3 l4 l5 : Int} {o6 o7 o8 : Option qV} (h :
chk (qR l5)
(if l5 < 5 then
  (wp S 168 34 [some (qs 28), some (qi l1), some (qi l2), some (qi l3), some (qi l4), some (qi l5), some (qi 1), some (qi 0), o8] [] t D Q)
  else
  (Q l4 t D))) : wp S 168 22 [some (qs 28), some (qi l1), some (qi l2), some (qi l3), some (qi l4), some (qi l5), o6, o7, o8] [] t D Q := vc_ok (cuts := [22, 34]) 600 22 _ _ _ _ h
set_option maxRecDepth 100000 in
theorem b168_34 {S : (Nat → Int32) × Nat} {t : qT} {D : qD} {Q : Int → qT → qD → Prop} {l1 l2 l3 l4 l5 l6 l7 : Int} {o8 : Option qV} (h :
chk (qR l7)
(chk (qR (4 * (D 28 31)))
  (if l7 < (4 * (D 28 31)) then
    (chk (0 ≤ l7 ∧ l7 < 24)
      (chk (qR (D 44 l7))
        (chk (qR l1)
          (if (D 44 l7) = l1 then
            (chk (0 ≤ (l7 + 1) ∧ (l7 + 1) < 24)
              (chk (qR (D 44 (l7 + 1)))
                (chk (qR l2)
                  (if (D 44 (l7 + 1)) = l2 then
                    (chk (qR l6)
                      (if l6 = 0 then
                        (wp S 168 34 [some (qs 28), some (qi l1), some (qi l2), some (qi l3), some (qi l4), some (qi l5), some (qi 0), some (qi (l7 + 4)), some (qi 1)] [] t D Q)
                        else
                        (chk (0 ≤ (l7 + 2) ∧ (l7 + 2) < 24)
                        (wp S 144 0 [some (qi l5), some (qi l3), some (qi (D 44 (l7 + 2)))] [] t D (fun x1 t1 D1 =>
                        (chk (0 ≤ (l7 + 3) ∧ (l7 + 3) < 24)
                        (chk (qR x1)
                        (chk (qR (D1 44 (l7 + 3)))
                        (if x1 = (D1 44 (l7 + 3)) then
                        (wp S 168 34 [some (qs 28), some (qi l1), some (qi l2), some (qi l3), some (qi l4), some (qi l5), some (qi 1), some (qi (l7 + 4)), some (qi 1)] [] t1 D1 Q)
                        else
                        (wp S 168 34 [some (qs 28), some (qi l1), some (qi l2), some (qi l3), some (qi l4), some (qi l5), some (qi 0), some (qi (l7 + 4)), some (qi 1)] [] t1 D1 Q))))))))))
                    else
                    (chk (qR l6)
                      (if l6 = 0 then
                        (wp S 168 34 [some (qs 28), some (qi l1), some (qi l2), some (qi l3), some (qi l4), some (qi l5), some (qi 0), some (qi (l7 + 4)), some (qi 0)] [] t D Q)
                        else
                        (wp S 168 34 [some (qs 28), some (qi l1), some (qi l2), some (qi l3), some (qi l4), some (qi l5), some (qi 1), some (qi (l7 + 4)), some (qi 0)] [] t D Q)))))))
            else
            (chk (qR l6)
              (if l6 = 0 then
                (wp S 168 34 [some (qs 28), some (qi l1), some (qi l2), some (qi l3), some (qi l4), some (qi l5), some (qi 0), some (qi (l7 + 4)), some (qi 0)] [] t D Q)
                else
                (wp S 168 34 [some (qs 28), some (qi l1), some (qi l2), some (qi l3), some (qi l4), some (qi l5), some (qi 1), some (qi (l7 + 4)), some (qi 0)] [] t D Q)))))))
    else
    (chk (qR l6)
      (if l6 = 0 then
        (wp S 168 22 [some (qs 28), some (qi l1), some (qi l2), some (qi l3), some (qi (qor l4 0)), some (qi (l5 + 1)), some (qi l6), some (qi l7), o8] [] t D Q)
        else
        (wp S 168 22 [some (qs 28), some (qi l1), some (qi l2), some (qi l3), some (qi (qor l4 (qshl 1 l5))), some (qi (l5 + 1)), some (qi l6), some (qi l7), o8] [] t D Q)))))) : wp S 168 34 [some (qs 28), some (qi l1), some (qi l2), some (qi l3), some (qi l4), some (qi l5), some (qi l6), some (qi l7), o8] [] t D Q := vc_ok (cuts := [22, 34]) 600 34 _ _ _ _ h
/-! 169 X9_askOf -/
set_option maxRecDepth 100000 in
theorem b169_0 {S : (Nat → Int32) × Nat} {t : qT} {D : qD} {Q : Int → qT → qD → Prop} {l1 l2 : Int} (h :
chk (0 ≤ (((15 * l1) + (5 * l2)) + 3) ∧ (((15 * l1) + (5 * l2)) + 3) < 45)
(wp S 168 0 [some (qs 28), some (qi l1), some (qi l2), none, none, none, none, none, none] [] t D (fun x1 t1 D1 =>
    (wp S 169 34 [some (qs 28), some (qi l1), some (qi l2), some (qi (D 40 (((15 * l1) + (5 * l2)) + 3))), some (qi x1), some (qi (-1)), some (qi 6), some (qi 0), none, none, none, none] [] t1 D1 Q)))) : wp S 169 0 [some (qs 28), some (qi l1), some (qi l2), none, none, none, none, none, none, none, none, none] [] t D Q := vc_ok (cuts := [34, 51, 63]) 600 0 _ _ _ _ h
set_option maxRecDepth 100000 in
theorem b169_34 {S : (Nat → Int32) × Nat} {t : qT} {D : qD} {Q : Int → qT → qD → Prop} {l1 l2 l3 l4 l5 l6 l7 : Int} {o8 o9 o10 o11 : Option qV} (h :
chk (qR l7)
(if l7 < 5 then
  (chk (qR l4)
    (if l4 = 0 then
      (Q l5 t D)
      else
      (wp S 169 51 [some (qs 28), some (qi l1), some (qi l2), some (qi l3), some (qi l4), some (qi l5), some (qi l6), some (qi l7), some (qi 0), some (qi 0), o10, o11] [] t D Q)))
  else
  (Q l5 t D))) : wp S 169 34 [some (qs 28), some (qi l1), some (qi l2), some (qi l3), some (qi l4), some (qi l5), some (qi l6), some (qi l7), o8, o9, o10, o11] [] t D Q := vc_ok (cuts := [34, 51, 63]) 600 34 _ _ _ _ h
set_option maxRecDepth 100000 in
theorem b169_51 {S : (Nat → Int32) × Nat} {t : qT} {D : qD} {Q : Int → qT → qD → Prop} {l1 l2 l3 l4 l5 l6 l7 l8 l9 : Int} {o10 o11 : Option qV} (h :
chk (qR l9)
(if l9 < 3 then
  (wp S 169 63 [some (qs 28), some (qi l1), some (qi l2), some (qi l3), some (qi l4), some (qi l5), some (qi l6), some (qi l7), some (qi l8), some (qi l9), some (qi 0), some (qi 0)] [] t D Q)
  else
  (chk (qR l8)
    (chk (qR l6)
      (if l8 < l6 then
        (chk (qR l8)
          (chk (qR l6)
            (if l8 < l6 then
              (wp S 169 34 [some (qs 28), some (qi l1), some (qi l2), some (qi l3), some (qi l4), some (qi l7), some (qi l8), some (qi (l7 + 1)), some (qi l8), some (qi l9), o10, o11] [] t D Q)
              else
              (wp S 169 34 [some (qs 28), some (qi l1), some (qi l2), some (qi l3), some (qi l4), some (qi l7), some (qi l6), some (qi (l7 + 1)), some (qi l8), some (qi l9), o10, o11] [] t D Q))))
        else
        (chk (qR l8)
          (chk (qR l6)
            (if l8 < l6 then
              (wp S 169 34 [some (qs 28), some (qi l1), some (qi l2), some (qi l3), some (qi l4), some (qi l5), some (qi l8), some (qi (l7 + 1)), some (qi l8), some (qi l9), o10, o11] [] t D Q)
              else
              (wp S 169 34 [some (qs 28), some (qi l1), some (qi l2), some (qi l3), some (qi l4), some (qi l5), some (qi l6), some (qi (l7 + 1)), some (qi l8), some (qi l9), o10, o11] [] t D Q))))))))) : wp S 169 51 [some (qs 28), some (qi l1), some (qi l2), some (qi l3), some (qi l4), some (qi l5), some (qi l6), some (qi l7), some (qi l8), some (qi l9), o10, o11] [] t D Q := vc_ok (cuts := [34, 51, 63]) 600 51 _ _ _ _ h
set_option maxRecDepth 100000 in
theorem b169_63 {S : (Nat → Int32) × Nat} {t : qT} {D : qD} {Q : Int → qT → qD → Prop} {l1 l2 l3 l4 l5 l6 l7 l8 l9 l10 l11 : Int} (h :
chk (qR l11)
(if l11 < 5 then
  (wp S 144 0 [some (qi l11), some (qi l3), some (qi l7)] [] t D (fun x1 t1 D1 =>
      (chk (qR x1)
        (chk (qR l9)
          (if x1 = l9 then
            (wp S 169 63 [some (qs 28), some (qi l1), some (qi l2), some (qi l3), some (qi l4), some (qi l5), some (qi l6), some (qi l7), some (qi l8), some (qi l9), some (qi (l10 + (qand (qshr l4 l11) 1))), some (qi (l11 + 1))] [] t1 D1 Q)
            else
            (wp S 169 63 [some (qs 28), some (qi l1), some (qi l2), some (qi l3), some (qi l4), some (qi l5), some (qi l6), some (qi l7), some (qi l8), some (qi l9), some (qi (l10 + 0)), some (qi (l11 + 1))] [] t1 D1 Q))))))
  else
  (chk (qR l10)
    (chk (qR l8)
      (if l8 < l10 then
        (wp S 169 51 [some (qs 28), some (qi l1), some (qi l2), some (qi l3), some (qi l4), some (qi l5), some (qi l6), some (qi l7), some (qi l10), some (qi (l9 + 1)), some (qi l10), some (qi l11)] [] t D Q)
        else
        (wp S 169 51 [some (qs 28), some (qi l1), some (qi l2), some (qi l3), some (qi l4), some (qi l5), some (qi l6), some (qi l7), some (qi l8), some (qi (l9 + 1)), some (qi l10), some (qi l11)] [] t D Q)))))) : wp S 169 63 [some (qs 28), some (qi l1), some (qi l2), some (qi l3), some (qi l4), some (qi l5), some (qi l6), some (qi l7), some (qi l8), some (qi l9), some (qi l10), some (qi l11)] [] t D Q := vc_ok (cuts := [34, 51, 63]) 600 63 _ _ _ _ h
/-! 170 X9_draw -/
set_option maxRecDepth 100000 in
theorem b170_0 {S : (Nat → Int32) × Nat} {t : qT} {D : qD} {Q : Int → qT → qD → Prop} {l1 : Int} (h :
chk (qR (D 28 33))
(chk (0 ≤ (((1103515245 * (D 28 33)) + 12345) % 2147483648) ∧ (((1103515245 * (D 28 33)) + 12345) % 2147483648) < 2147483648)
  (chk (0 ≤ ((((1103515245 * (D 28 33)) + 12345) % 2147483648) / 65536) ∧ ((((1103515245 * (D 28 33)) + 12345) % 2147483648) / 65536) < 2147483648)
    (chk (0 < l1 ∧ l1 < 2147483648)
      (Q (((((1103515245 * (D 28 33)) + 12345) % 2147483648) / 65536) % l1) t (up D 28 33 (((1103515245 * (D 28 33)) + 12345) % 2147483648))))))) : wp S 170 0 [some (qs 28), some (qi l1)] [] t D Q := vc_ok (cuts := []) 600 0 _ _ _ _ h
/-! 171 X9_drawCall -/
set_option maxRecDepth 100000 in
theorem b171_0 {S : (Nat → Int32) × Nat} {t : qT} {D : qD} {Q : Int → qT → qD → Prop} (h :
wp S 170 0 [some (qs 28), some (qi (D 28 14))] [] t D (fun x1 t1 D1 =>
  (wp S 133 0 [some (qs 28)] [] t1 D1 (fun x2 t2 D2 =>
      (chk (qR x2)
        (if x2 < 8 then
          (wp S 136 0 [some (qs 28), some (qi x1), none, none] [] t2 D2 (fun _ t3 D3 =>
              (Q 0 t3 D3)))
          else
          (Q 0 t2 D2))))))) : wp S 171 0 [some (qs 28), none] [] t D Q := vc_ok (cuts := []) 600 0 _ _ _ _ h
/-! 172 X9_drawGo -/
set_option maxRecDepth 100000 in
theorem b172_0 {S : (Nat → Int32) × Nat} {t : qT} {D : qD} {Q : Int → qT → qD → Prop} (h :
wp S 133 0 [some (qs 28)] [] t D (fun x1 t1 D1 =>
  (chk (qR x1)
    (if 0 < x1 then
      (wp S 134 0 [some (qs 28), some (qi 0)] [] t1 D1 (fun x2 t2 D2 =>
          (chk (0 ≤ (x2 + 1) ∧ (x2 + 1) < 110)
            (chk (qR (D2 42 (x2 + 1)))
              (if (D2 42 (x2 + 1)) < 9 then
                (wp S 137 0 [some (qs 28), some (qi 1), none, none] [] t2 D2 (fun _ t3 D3 =>
                    (Q 0 t3 D3)))
                else
                (Q 0 t2 D2))))))
      else
      (Q 0 t1 D1))))) : wp S 172 0 [some (qs 28)] [] t D Q := vc_ok (cuts := []) 600 0 _ _ _ _ h
/-! 173 X9_drawSet -/
set_option maxRecDepth 100000 in
theorem b173_0 {S : (Nat → Int32) × Nat} {t : qT} {D : qD} {Q : Int → qT → qD → Prop} (h :
wp S 170 0 [some (qs 28), some (qi 4)] [] t D (fun x1 t1 D1 =>
  (wp S 170 0 [some (qs 28), some (qi 1000)] [] t1 D1 (fun x2 t2 D2 =>
      (chk (0 ≤ (9 + x1) ∧ (9 + x1) < 110)
        (Q 0 t2 (up D2 42 (9 + x1) x2))))))) : wp S 173 0 [some (qs 28), none] [] t D Q := vc_ok (cuts := []) 600 0 _ _ _ _ h
/-! 174 X9_drawRaise -/
set_option maxRecDepth 100000 in
theorem b174_0 {S : (Nat → Int32) × Nat} {t : qT} {D : qD} {Q : Int → qT → qD → Prop} (h :
wp S 170 0 [some (qs 28), some (qi 5)] [] t D (fun x1 t1 D1 =>
  (wp S 146 0 [some (qs 28), some (qi x1), none, none, none, none] [] t1 D1 (fun _ t2 D2 =>
      (chk (qR (D2 28 28))
        (if (D2 28 28) = (-1) then
          (Q 0 t2 D2)
          else
          (wp S 150 0 [some (qs 28), some (qi x1), none, none] [] t2 D2 (fun _ t3 D3 =>
              (Q 1 t3 D3))))))))) : wp S 174 0 [some (qs 28), none] [] t D Q := vc_ok (cuts := []) 600 0 _ _ _ _ h
/-! 175 X9_drawOne -/
set_option maxRecDepth 100000 in
theorem b175_0 {S : (Nat → Int32) × Nat} {t : qT} {D : qD} {Q : Int → qT → qD → Prop} (h :
wp S 170 0 [some (qs 28), some (qi 4)] [] t D (fun x1 t1 D1 =>
  (chk (qR x1)
    (if x1 = 0 then
      (wp S 171 0 [some (qs 28), none] [] t1 D1 (fun _ t2 D2 =>
          (Q 0 t2 D2)))
      else
      (if x1 = 1 then
        (wp S 172 0 [some (qs 28)] [] t1 D1 (fun _ t3 D3 =>
            (Q 0 t3 D3)))
        else
        (if x1 = 2 then
          (wp S 173 0 [some (qs 28), none] [] t1 D1 (fun _ t4 D4 =>
              (Q 0 t4 D4)))
          else
          (wp S 174 0 [some (qs 28), none] [] t1 D1 (fun x5 t5 D5 =>
              (Q x5 t5 D5))))))))) : wp S 175 0 [some (qs 28)] [] t D Q := vc_ok (cuts := []) 600 0 _ _ _ _ h
/-! 176 X9_drawn -/
set_option maxRecDepth 100000 in
theorem b176_0 {S : (Nat → Int32) × Nat} {t : qT} {D : qD} {Q : Int → qT → qD → Prop} {l1 l2 l3 : Int} (h :
chk (qR l1)
(wp S 110 0 [some (ql l1), none, some (ql 1), none, some (ql 99), none] [] t D (fun x1 t1 D1 =>
    (chk (qR x1)
      (if x1 = 0 then
        (Q (-102) t1 D1)
        else
        (chk (qR l2)
          (if l2 < 0 then
            (Q (-102) t1 D1)
            else
            (chk (qR l3)
              (wp S 110 0 [some (ql l3), none, some (ql 0), none, some (ql 2), none] [] t1 D1 (fun x2 t2 D2 =>
                  (chk (qR x2)
                    (if x2 = 0 then
                      (Q (-102) t2 D2)
                      else
                      (wp S 128 0 [some (qs 28)] [] t2 D2 (fun x3 t3 D3 =>
                        (chk (qR x3)
                        (if x3 = 0 then
                        (wp S 124 0 [some (qs 42), some (qs 45), none] [] t3 D3 (fun _ t4 D4 =>
                        (wp S 176 63 [some (qs 28), some (qi l1), some (qi l2), some (qi l3), some (qi 0), some (qi 0)] [] t4 (up D4 28 33 l2) Q)))
                        else
                        (Q (-103) t3 D3))))))))))))))))) : wp S 176 0 [some (qs 28), some (qi l1), some (qi l2), some (qi l3), none, none] [] t D Q := vc_ok (cuts := [63]) 600 0 _ _ _ _ h
set_option maxRecDepth 100000 in
theorem b176_63 {S : (Nat → Int32) × Nat} {t : qT} {D : qD} {Q : Int → qT → qD → Prop} {l1 l2 l3 l4 l5 : Int} (h :
chk (qR l5)
(chk (qR l1)
  (if l5 < l1 then
    (wp S 175 0 [some (qs 28)] [] t D (fun x1 t1 D1 =>
        (wp S 176 63 [some (qs 28), some (qi l1), some (qi l2), some (qi l3), some (qi (l4 + x1)), some (qi (l5 + 1))] [] t1 D1 Q)))
    else
    (wp S 133 0 [some (qs 28)] [] t D (fun x2 t2 D2 =>
        (wp S 124 0 [some (qs 45), some (qs 42), none] [] t2 D2 (fun _ t3 D3 =>
            (chk (qR l3)
              (if l3 = 0 then
                (Q l4 t3 D3)
                else
                (chk (qR l3)
                  (if l3 = 1 then
                    (Q x2 t3 D3)
                    else
                    (Q (D3 28 33) t3 D3)))))))))))) : wp S 176 63 [some (qs 28), some (qi l1), some (qi l2), some (qi l3), some (qi l4), some (qi l5)] [] t D Q := vc_ok (cuts := [63]) 600 63 _ _ _ _ h
/-! 177 X9_image -/
set_option maxRecDepth 100000 in
theorem b177_0 {S : (Nat → Int32) × Nat} {t : qT} {D : qD} {Q : Int → qT → qD → Prop} (h :
wp S 128 0 [some (qs 28)] [] t D (fun x1 t1 D1 =>
  (chk (qR x1)
    (if x1 = 0 then
      (wp S 124 0 [some (qs 42), some (qs 46), none] [] t1 D1 (fun _ t2 D2 =>
          (wp S 124 0 [some (qs 43), some (qs 47), none] [] t2 D2 (fun _ t3 D3 =>
              (wp S 124 0 [some (qs 44), some (qs 48), none] [] t3 D3 (fun _ t4 D4 =>
                  (wp S 133 0 [some (qs 28)] [] t4 (up (up (up D4 28 36 (D4 28 27)) 28 37 (D4 28 31)) 28 35 (D4 28 15)) (fun x5 t5 D5 =>
                      (Q x5 t5 D5)))))))))
      else
      (Q (-103) t1 D1))))) : wp S 177 0 [some (qs 28)] [] t D Q := vc_ok (cuts := []) 600 0 _ _ _ _ h
/-! 178 X9_restore -/
set_option maxRecDepth 100000 in
theorem b178_0 {S : (Nat → Int32) × Nat} {t : qT} {D : qD} {Q : Int → qT → qD → Prop} (h :
chk (qR (D 28 35))
(chk (qR (D 28 15))
  (if (D 28 35) = (D 28 15) then
    (wp S 124 0 [some (qs 46), some (qs 42), none] [] t D (fun _ t1 D1 =>
        (wp S 124 0 [some (qs 47), some (qs 43), none] [] t1 D1 (fun _ t2 D2 =>
            (wp S 124 0 [some (qs 48), some (qs 44), none] [] t2 D2 (fun _ t3 D3 =>
                (wp S 133 0 [some (qs 28)] [] t3 (up (up D3 28 27 (D3 28 36)) 28 31 (D3 28 37)) (fun x4 t4 D4 =>
                    (Q x4 t4 D4)))))))))
    else
    (Q (-103) t D)))) : wp S 178 0 [some (qs 28)] [] t D Q := vc_ok (cuts := []) 600 0 _ _ _ _ h
/-! 179 X9_padsAll -/
set_option maxRecDepth 100000 in
theorem b179_0 {S : (Nat → Int32) × Nat} {t : qT} {D : qD} {Q : Int → qT → qD → Prop} (h :
wp S 179 4 [some (qs 28), some (qi 0), some (qi 0)] [] t D Q) : wp S 179 0 [some (qs 28), none, none] [] t D Q := vc_ok (cuts := [4]) 600 0 _ _ _ _ h
set_option maxRecDepth 100000 in
theorem b179_4 {S : (Nat → Int32) × Nat} {t : qT} {D : qD} {Q : Int → qT → qD → Prop} {l1 l2 : Int} (h :
chk (qR l2)
(chk (qR (D 28 14))
  (if l2 < (D 28 14) then
    (chk (0 ≤ l2 ∧ l2 < 3)
      (wp S 179 4 [some (qs 28), some (qi (l1 + (D 38 l2))), some (qi (l2 + 1))] [] t D Q))
    else
    (Q l1 t D)))) : wp S 179 4 [some (qs 28), some (qi l1), some (qi l2)] [] t D Q := vc_ok (cuts := [4]) 600 4 _ _ _ _ h
/-! 180 X9_savedMany -/
set_option maxRecDepth 100000 in
theorem b180_0 {S : (Nat → Int32) × Nat} {t : qT} {D : qD} {Q : Int → qT → qD → Prop} (h :
wp S 180 4 [some (qs 28), some (qi 0), some (qi 0), none, none] [] t D Q) : wp S 180 0 [some (qs 28), none, none, none, none] [] t D Q := vc_ok (cuts := [4, 20]) 600 0 _ _ _ _ h
set_option maxRecDepth 100000 in
theorem b180_4 {S : (Nat → Int32) × Nat} {t : qT} {D : qD} {Q : Int → qT → qD → Prop} {l1 l2 : Int} {o3 o4 : Option qV} (h :
chk (qR l2)
(chk (qR (10 * (D 28 14)))
  (if l2 < (10 * (D 28 14)) then
    (wp S 180 20 [some (qs 28), some (qi l1), some (qi l2), some (qi 0), some (qi 0)] [] t D Q)
    else
    (Q l1 t D)))) : wp S 180 4 [some (qs 28), some (qi l1), some (qi l2), o3, o4] [] t D Q := vc_ok (cuts := [4, 20]) 600 4 _ _ _ _ h
set_option maxRecDepth 100000 in
theorem b180_20 {S : (Nat → Int32) × Nat} {t : qT} {D : qD} {Q : Int → qT → qD → Prop} {l1 l2 l3 l4 : Int} (h :
chk (qR l4)
(if l4 < 4 then
  (chk (qR l3)
    (if l3 = 0 then
      (chk (0 ≤ ((4 * l2) + l4) ∧ ((4 * l2) + l4) < 120)
        (chk (qR (D 34 ((4 * l2) + l4)))
          (if (D 34 ((4 * l2) + l4)) = (-1) then
            (wp S 180 20 [some (qs 28), some (qi l1), some (qi l2), some (qi 0), some (qi (l4 + 1))] [] t D Q)
            else
            (wp S 180 20 [some (qs 28), some (qi l1), some (qi l2), some (qi 1), some (qi (l4 + 1))] [] t D Q))))
      else
      (wp S 180 20 [some (qs 28), some (qi l1), some (qi l2), some (qi 1), some (qi (l4 + 1))] [] t D Q)))
  else
  (chk (qR l3)
    (if l3 = 0 then
      (wp S 180 4 [some (qs 28), some (qi (l1 + 0)), some (qi (l2 + 1)), some (qi l3), some (qi l4)] [] t D Q)
      else
      (wp S 180 4 [some (qs 28), some (qi (l1 + 1)), some (qi (l2 + 1)), some (qi l3), some (qi l4)] [] t D Q))))) : wp S 180 20 [some (qs 28), some (qi l1), some (qi l2), some (qi l3), some (qi l4)] [] t D Q := vc_ok (cuts := [4, 20]) 600 20 _ _ _ _ h
/-! 181 X9_countOf -/
set_option maxRecDepth 100000 in
theorem b181_0 {S : (Nat → Int32) × Nat} {t : qT} {D : qD} {Q : Int → qT → qD → Prop} {l1 : Int} (h :
chk (qR l1)
(if l1 = 0 then
  (Q (D 28 14) t D)
  else
  (if l1 = 1 then
    (wp S 179 0 [some (qs 28), none, none] [] t D (fun x1 t1 D1 =>
        (Q x1 t1 D1)))
    else
    (if l1 = 2 then
      (wp S 133 0 [some (qs 28)] [] t D (fun x2 t2 D2 =>
          (Q x2 t2 D2)))
      else
      (if l1 = 3 then
        (Q (D 28 27) t D)
        else
        (if l1 = 4 then
          (wp S 180 0 [some (qs 28), none, none, none, none] [] t D (fun x3 t3 D3 =>
              (Q x3 t3 D3)))
          else
          (if l1 = 5 then
            (Q (D 28 31) t D)
            else
            (if l1 = 6 then
              (Q (D 28 1) t D)
              else
              (if l1 = 7 then
                (Q (D 28 15) t D)
                else
                (Q (-102) t D)))))))))) : wp S 181 0 [some (qs 28), some (qi l1)] [] t D Q := vc_ok (cuts := []) 600 0 _ _ _ _ h
/-! 182 X9_count -/
set_option maxRecDepth 100000 in
theorem b182_0 {S : (Nat → Int32) × Nat} {t : qT} {D : qD} {Q : Int → qT → qD → Prop} {l1 : Int} (h :
wp S 181 0 [some (qs 28), some (qi l1)] [] t D (fun x1 t1 D1 =>
  (Q x1 t1 D1))) : wp S 182 0 [some (qs 28), some (qi l1)] [] t D Q := vc_ok (cuts := []) 600 0 _ _ _ _ h
/-! 183 X9_say -/
set_option maxRecDepth 100000 in
theorem b183_0 {S : (Nat → Int32) × Nat} {t : qT} {D : qD} {Q : Int → qT → qD → Prop} {l1 : Int} (h :
Q 0 t (up D 28 41 ((31 * (D 28 41)) + l1))) : wp S 183 0 [some (qs 28), some (ql l1), none] [] t D Q := vc_ok (cuts := []) 600 0 _ _ _ _ h
/-! 184 X9_sayFunction -/
set_option maxRecDepth 100000 in
theorem b184_0 {S : (Nat → Int32) × Nat} {t : qT} {D : qD} {Q : Int → qT → qD → Prop} {l1 : Int} (h :
wp S 184 2 [some (qs 28), some (qi l1), some (qi 0), none] [] t D Q) : wp S 184 0 [some (qs 28), some (qi l1), none, none] [] t D Q := vc_ok (cuts := [2, 34, 46]) 600 0 _ _ _ _ h
set_option maxRecDepth 100000 in
theorem b184_2 {S : (Nat → Int32) × Nat} {t : qT} {D : qD} {Q : Int → qT → qD → Prop} {l1 l2 : Int} (h :
chk (qR l2)
(if l2 < 60 then
  (chk (0 ≤ l2 ∧ l2 < 2147483648)
    (chk (0 ≤ l2 ∧ l2 < 2147483648)
      (wp S 156 0 [some (qs 28), some (qi l1), some (qi (l2 / 6)), some (qi (l2 % 6))] [] t D (fun x1 t1 D1 =>
          (chk (qR x1)
            (wp S 183 0 [some (qs 28), some (ql x1), none] [] t1 D1 (fun _ t2 D2 =>
                (wp S 184 2 [some (qs 28), some (qi l1), some (qi (l2 + 1)), none] [] t2 D2 Q))))))))
  else
  (wp S 184 34 [some (qs 28), some (qi l1), some (qi 0), none] [] t D Q))) : wp S 184 2 [some (qs 28), some (qi l1), some (qi l2), none] [] t D Q := vc_ok (cuts := [2, 34, 46]) 600 2 _ _ _ _ h
set_option maxRecDepth 100000 in
theorem b184_34 {S : (Nat → Int32) × Nat} {t : qT} {D : qD} {Q : Int → qT → qD → Prop} {l1 l2 : Int} {o3 : Option qV} (h :
chk (0 ≤ l1 ∧ l1 < 3)
(chk (qR l2)
  (chk (qR (D 38 l1))
    (if l2 < (D 38 l1) then
      (wp S 184 46 [some (qs 28), some (qi l1), some (qi l2), some (qi 0)] [] t D Q)
      else
      (Q 0 t D))))) : wp S 184 34 [some (qs 28), some (qi l1), some (qi l2), o3] [] t D Q := vc_ok (cuts := [2, 34, 46]) 600 34 _ _ _ _ h
set_option maxRecDepth 100000 in
theorem b184_46 {S : (Nat → Int32) × Nat} {t : qT} {D : qD} {Q : Int → qT → qD → Prop} {l1 l2 l3 : Int} (h :
chk (qR l3)
(if l3 < 7 then
  (wp S 158 0 [some (qs 28), some (qi l1), some (qi l2), some (qi l3)] [] t D (fun x1 t1 D1 =>
      (chk (qR x1)
        (wp S 183 0 [some (qs 28), some (ql x1), none] [] t1 D1 (fun _ t2 D2 =>
            (wp S 184 46 [some (qs 28), some (qi l1), some (qi l2), some (qi (l3 + 1))] [] t2 D2 Q))))))
  else
  (wp S 184 34 [some (qs 28), some (qi l1), some (qi (l2 + 1)), some (qi l3)] [] t D Q))) : wp S 184 46 [some (qs 28), some (qi l1), some (qi l2), some (qi l3)] [] t D Q := vc_ok (cuts := [2, 34, 46]) 600 46 _ _ _ _ h
/-! 185 X9_sayText -/
set_option maxRecDepth 100000 in
theorem b185_0 {S : (Nat → Int32) × Nat} {t : qT} {D : qD} {Q : Int → qT → qD → Prop} (h :
wp S 185 2 [some (qs 28), some (qi 0)] [] t D Q) : wp S 185 0 [some (qs 28), none] [] t D Q := vc_ok (cuts := [2]) 600 0 _ _ _ _ h
set_option maxRecDepth 100000 in
theorem b185_2 {S : (Nat → Int32) × Nat} {t : qT} {D : qD} {Q : Int → qT → qD → Prop} {l1 : Int} (h :
chk (qR l1)
(if l1 < 15 then
  (chk (0 ≤ l1 ∧ l1 < 2147483648)
    (chk (0 ≤ l1 ∧ l1 < 2147483648)
      (wp S 147 0 [some (qs 28), some (qi (l1 / 3)), some (qi (l1 % 3))] [] t D (fun x1 t1 D1 =>
          (chk (qR x1)
            (wp S 183 0 [some (qs 28), some (ql x1), none] [] t1 D1 (fun _ t2 D2 =>
                (wp S 185 2 [some (qs 28), some (qi (l1 + 1))] [] t2 D2 Q))))))))
  else
  (wp S 152 0 [some (qs 28), none, none] [] t D (fun x3 t3 D3 =>
      (chk (qR x3)
        (wp S 183 0 [some (qs 28), some (ql x3), none] [] t3 D3 (fun _ t4 D4 =>
            (Q 0 t4 D4)))))))) : wp S 185 2 [some (qs 28), some (qi l1)] [] t D Q := vc_ok (cuts := [2]) 600 2 _ _ _ _ h
/-! 186 X9_digest -/
set_option maxRecDepth 100000 in
theorem b186_0 {S : (Nat → Int32) × Nat} {t : qT} {D : qD} {Q : Int → qT → qD → Prop} (h :
wp S 186 9 [some (qs 28), some (qi 0), none] [] t (up D 28 41 1399) Q) : wp S 186 0 [some (qs 28), none, none] [] t D Q := vc_ok (cuts := [9, 30, 40, 71, 121, 154, 181]) 600 0 _ _ _ _ h
set_option maxRecDepth 100000 in
theorem b186_9 {S : (Nat → Int32) × Nat} {t : qT} {D : qD} {Q : Int → qT → qD → Prop} {l1 : Int} (h :
chk (qR l1)
(chk (qR (D 28 14))
  (if l1 < (D 28 14) then
    (wp S 184 0 [some (qs 28), some (qi l1), none, none] [] t D (fun _ t1 D1 =>
        (wp S 186 9 [some (qs 28), some (qi (l1 + 1)), none] [] t1 D1 Q)))
    else
    (wp S 186 30 [some (qs 28), some (qi 0), none] [] t D Q)))) : wp S 186 9 [some (qs 28), some (qi l1), none] [] t D Q := vc_ok (cuts := [9, 30, 40, 71, 121, 154, 181]) 600 9 _ _ _ _ h
set_option maxRecDepth 100000 in
theorem b186_30 {S : (Nat → Int32) × Nat} {t : qT} {D : qD} {Q : Int → qT → qD → Prop} {l1 : Int} {o2 : Option qV} (h :
wp S 133 0 [some (qs 28)] [] t D (fun x1 t1 D1 =>
  (chk (qR l1)
    (chk (qR x1)
      (if l1 < x1 then
        (wp S 186 40 [some (qs 28), some (qi l1), some (qi 0)] [] t1 D1 Q)
        else
        (wp S 186 71 [some (qs 28), some (qi 0), o2] [] t1 D1 Q)))))) : wp S 186 30 [some (qs 28), some (qi l1), o2] [] t D Q := vc_ok (cuts := [9, 30, 40, 71, 121, 154, 181]) 600 30 _ _ _ _ h
set_option maxRecDepth 100000 in
theorem b186_40 {S : (Nat → Int32) × Nat} {t : qT} {D : qD} {Q : Int → qT → qD → Prop} {l1 l2 : Int} (h :
chk (qR l2)
(if l2 < 12 then
  (wp S 162 0 [some (qs 28), some (qi l1), some (qi l2)] [] t D (fun x1 t1 D1 =>
      (chk (qR x1)
        (wp S 183 0 [some (qs 28), some (ql x1), none] [] t1 D1 (fun _ t2 D2 =>
            (wp S 186 40 [some (qs 28), some (qi l1), some (qi (l2 + 1))] [] t2 D2 Q))))))
  else
  (wp S 186 30 [some (qs 28), some (qi (l1 + 1)), some (qi l2)] [] t D Q))) : wp S 186 40 [some (qs 28), some (qi l1), some (qi l2)] [] t D Q := vc_ok (cuts := [9, 30, 40, 71, 121, 154, 181]) 600 40 _ _ _ _ h
set_option maxRecDepth 100000 in
theorem b186_71 {S : (Nat → Int32) × Nat} {t : qT} {D : qD} {Q : Int → qT → qD → Prop} {l1 : Int} {o2 : Option qV} (h :
chk (qR l1)
(if l1 < 4 then
  (chk (0 ≤ (9 + l1) ∧ (9 + l1) < 110)
    (chk (qR (D 42 (9 + l1)))
      (wp S 183 0 [some (qs 28), some (ql (D 42 (9 + l1))), none] [] t D (fun _ t1 D1 =>
          (wp S 186 71 [some (qs 28), some (qi (l1 + 1)), o2] [] t1 D1 Q)))))
  else
  (wp S 128 0 [some (qs 28)] [] t D (fun x2 t2 D2 =>
      (chk (qR x2)
        (if x2 = 0 then
          (wp S 185 0 [some (qs 28), none] [] t2 D2 (fun _ t3 D3 =>
              (chk (qR (D3 42 78))
                (wp S 183 0 [some (qs 28), some (ql (D3 42 78)), none] [] t3 D3 (fun _ t4 D4 =>
                    (wp S 186 121 [some (qs 28), some (qi 0), o2] [] t4 D4 Q))))))
          else
          (chk (qR (D2 42 78))
            (wp S 183 0 [some (qs 28), some (ql (D2 42 78)), none] [] t2 D2 (fun _ t5 D5 =>
                (wp S 186 121 [some (qs 28), some (qi 0), o2] [] t5 D5 Q)))))))))) : wp S 186 71 [some (qs 28), some (qi l1), o2] [] t D Q := vc_ok (cuts := [9, 30, 40, 71, 121, 154, 181]) 600 71 _ _ _ _ h
set_option maxRecDepth 100000 in
theorem b186_121 {S : (Nat → Int32) × Nat} {t : qT} {D : qD} {Q : Int → qT → qD → Prop} {l1 : Int} {o2 : Option qV} (h :
chk (qR l1)
(chk (qR (D 42 78))
  (if l1 < (D 42 78) then
    (chk (0 ≤ (79 + l1) ∧ (79 + l1) < 110)
      (chk (qR (D 42 (79 + l1)))
        (wp S 183 0 [some (qs 28), some (ql (D 42 (79 + l1))), none] [] t D (fun _ t1 D1 =>
            (wp S 186 121 [some (qs 28), some (qi (l1 + 1)), o2] [] t1 D1 Q)))))
    else
    (wp S 186 154 [some (qs 28), some (qi 0), o2] [] t D Q)))) : wp S 186 121 [some (qs 28), some (qi l1), o2] [] t D Q := vc_ok (cuts := [9, 30, 40, 71, 121, 154, 181]) 600 121 _ _ _ _ h
set_option maxRecDepth 100000 in
theorem b186_154 {S : (Nat → Int32) × Nat} {t : qT} {D : qD} {Q : Int → qT → qD → Prop} {l1 : Int} {o2 : Option qV} (h :
chk (qR l1)
(chk (qR (D 28 1))
  (if l1 < (D 28 1) then
    (chk (0 ≤ l1 ∧ l1 < 100)
      (chk (qR (D 29 l1))
        (wp S 183 0 [some (qs 28), some (ql (D 29 l1)), none] [] t D (fun _ t1 D1 =>
            (wp S 186 154 [some (qs 28), some (qi (l1 + 1)), o2] [] t1 D1 Q)))))
    else
    (wp S 186 181 [some (qs 28), some (qi 0), o2] [] t D Q)))) : wp S 186 154 [some (qs 28), some (qi l1), o2] [] t D Q := vc_ok (cuts := [9, 30, 40, 71, 121, 154, 181]) 600 154 _ _ _ _ h
set_option maxRecDepth 100000 in
theorem b186_181 {S : (Nat → Int32) × Nat} {t : qT} {D : qD} {Q : Int → qT → qD → Prop} {l1 : Int} {o2 : Option qV} (h :
chk (qR l1)
(if l1 < 8 then
  (wp S 181 0 [some (qs 28), some (qi l1)] [] t D (fun x1 t1 D1 =>
      (chk (qR x1)
        (wp S 183 0 [some (qs 28), some (ql x1), none] [] t1 D1 (fun _ t2 D2 =>
            (wp S 186 181 [some (qs 28), some (qi (l1 + 1)), o2] [] t2 D2 Q))))))
  else
  (Q (D 28 41) t D))) : wp S 186 181 [some (qs 28), some (qi l1), o2] [] t D Q := vc_ok (cuts := [9, 30, 40, 71, 121, 154, 181]) 600 181 _ _ _ _ h
end
section
/-! ## words for the rows: what each thing does, over numbers -/
def ui (f : Int → Int) (i x : Int) : Int → Int := fun j => if j = i then x else f j
theorem up_eq (D : qD) (a : Nat) (i x : Int) : up D a i x = upr D a (ui (D a) i x) := by
  funext b j
  unfold up upr ui
  by_cases h : b = a
  · subst h
    by_cases h2 : j = i
    · rw [if_pos ⟨rfl, h2⟩, if_pos rfl, if_pos h2]
    · rw [if_neg (fun q => h2 q.2), if_pos rfl, if_neg h2]
  · rw [if_neg (fun q => h q.1), if_neg h]
theorem upr_n {D : qD} {a b : Nat} {f : Int → Int} (h : b ≠ a) : upr D a f b = D b := if_neg h
theorem upr_b {D : qD} {a b : Nat} {f : Int → Int} (h : (b == a) = false) : upr D a f b = D b := if_neg (fun q => by rw [q] at h; simp at h)
theorem upr_u (D : qD) (a : Nat) (f g : Int → Int) : upr (upr D a f) a g = upr D a g := by
  funext b
  unfold upr
  by_cases h : b = a
  · rw [if_pos h, if_pos h]
  · rw [if_neg h, if_neg h, if_neg h]
theorem upr_id (D : qD) (a : Nat) : upr D a (D a) = D := by
  funext b
  unfold upr
  by_cases h : b = a
  · rw [if_pos h, h]
  · rw [if_neg h]
theorem upr_c {D : qD} {a b : Nat} {f g : Int → Int} (h : a ≠ b) : upr (upr D a f) b g = upr (upr D b g) a f := by
  funext c
  unfold upr
  by_cases h1 : c = a
  · subst h1
    rw [if_neg h, if_pos rfl, if_pos rfl]
  · by_cases h2 : c = b
    · rw [if_pos h2, if_neg h1, if_pos h2]
    · rw [if_neg h2, if_neg h1, if_neg h1, if_neg h2]
theorem ui_s {f : Int → Int} {i x : Int} : ui f i x i = x := if_pos rfl
theorem ui_n {f : Int → Int} {i x j : Int} (h : j ≠ i) : ui f i x j = f j := if_neg h
theorem ui_ap (f : Int → Int) (i x j : Int) : ui f i x j = if j = i then x else f j := rfl
theorem ui_u (f : Int → Int) (i x y : Int) : ui (ui f i x) i y = ui f i y := by
  funext j
  unfold ui
  by_cases h : j = i
  · rw [if_pos h, if_pos h]
  · rw [if_neg h, if_neg h, if_neg h]
theorem ui_id (f : Int → Int) (i : Int) : ui f i (f i) = f := by
  funext j
  unfold ui
  by_cases h : j = i
  · rw [if_pos h, h]
  · rw [if_neg h]
theorem ite_i {c : Prop} [Decidable c] {A B : Prop} (h1 : c → A) (h2 : ¬c → B) : if c then A else B := by
  by_cases h : c
  · rw [if_pos h]; exact h1 h
  · rw [if_neg h]; exact h2 h
theorem qcmp_lt {x y : Int} : qcmp x y < 0 ↔ x < y := by unfold qcmp; split <;> (try split) <;> omega
theorem qcmp_gt {x y : Int} : 0 < qcmp x y ↔ y < x := by unfold qcmp; split <;> (try split) <;> omega
theorem qcmp_R {x y : Int} : qR (qcmp x y) := by unfold qcmp; split <;> (try split) <;> exact ⟨by omega, by omega⟩
/-! what a pad does: 0 nothing, 1 it catches, 2 it finishes -/
def sDoes (k o ty : Int) : Int :=
  if k = 1 then 1 else if k = 2 then 2 else if k = 3 then (if ty < o then 0 else 1) else if ty = o then 1 else if k = 4 then 2 else 0
def sDA (pd N : Int → Int) (f p adr ty : Int) : Int :=
  if pd (15 * f + 5 * p + 1) ≤ adr ∧ adr ≤ pd (15 * f + 5 * p + 2) then sDoes (N (3 * f + p)) (pd (15 * f + 5 * p + 3)) ty else 0
/-- where the latest frame but n begins in the row -/
def sAt (N : Int → Int) (n : Int) : Int := 14 + 8 * (N 13 - 1 - n)
def sSv (om op : Int → Int) (f a : Int) : Nat → Int → Int → (Int → Int) → (Int → Int)
  | 0, _, _, N => N
  | k + 1, n, adr, N => if n < om f then
      (if op (24 * f + 3 * n) = 43 then sSv om op f a k (n + 1) (adr + op (24 * f + 3 * n + 1)) N
       else if op (24 * f + 3 * n) = 115 ∧ adr = N (a + 1) then sSv om op f a k (n + 1) adr (ui N (a + 2 + op (24 * f + 3 * n + 2)) (N (9 + op (24 * f + 3 * n + 1))))
       else sSv om op f a k (n + 1) adr N)
    else N
def cpf (R g : Int → Int) (lo hi : Int) : Int → Int := fun i => if lo ≤ i ∧ i < hi then g i else R i
theorem cpf_0 (R g : Int → Int) (lo : Int) : cpf R g lo lo = R := by
  funext i; unfold cpf; rw [if_neg (by omega)]
theorem cpf_s {R g : Int → Int} {lo hi : Int} (h : lo ≤ hi) : ui (cpf R g lo hi) hi (g hi) = cpf R g lo (hi + 1) := by
  funext i
  unfold ui cpf
  by_cases c : i = hi
  · rw [if_pos c, if_pos (by omega), c]
  · rw [if_neg c]
    by_cases d : lo ≤ i ∧ i < hi
    · rw [if_pos d, if_pos (by omega)]
    · rw [if_neg d, if_neg (by omega)]
theorem cpf_y {R g : Int → Int} {lo hi i : Int} (h : lo ≤ i ∧ i < hi) : cpf R g lo hi i = g i := if_pos h
theorem cpf_n {R g : Int → Int} {lo hi i : Int} (h : ¬ (lo ≤ i ∧ i < hi)) : cpf R g lo hi i = R i := if_neg h
def sClr (N : Int → Int) (a : Int) : Int → Int := cpf N (fun _ => 0) a (a + 8)
def sCall (om op : Int → Int) (N : Int → Int) (f : Int) : Int → Int :=
  sSv om op f (14 + 8 * N 13) 8 0 0 (ui (sClr (ui N 13 (N 13 + 1)) (14 + 8 * N 13)) (14 + 8 * N 13) f)
def sStep (om op : Int → Int) (N : Int → Int) : Int → Int :=
  sSv om op (N (sAt N 0)) (sAt N 0) 8 0 0 (ui N (sAt N 0 + 1) (N (sAt N 0 + 1) + 1))
def sGo (om op : Int → Int) : Nat → (Int → Int) → (Int → Int)
  | 0, N => N
  | k + 1, N => sGo om op k (sStep om op N)
def sCell (sv N : Int → Int) (n r : Int) : Int := sv (40 * N (sAt N n) + 4 * N (sAt N n + 1) + r)
def sReg (sv N : Int → Int) (n r v : Int) : Int := if sCell sv N n r = -1 then v else N (sAt N n + 2 + sCell sv N n r)
def sBack (sv N : Int → Int) : Int → Int := ui (cpf N (fun i => sReg sv N 0 (i - 9) (N i)) 9 13) 13 (N 13 - 1)
def sLp (pm pd N : Int → Int) (n ty : Int) : Nat → Int → Int → Int × Int
  | 0, _, fin => (-1, fin)
  | k + 1, p, fin => if p < pm (N (sAt N n)) then
      (if sDA pd N (N (sAt N n)) p (N (sAt N n + 1)) ty = 1 then (p, fin)
       else if sDA pd N (N (sAt N n)) p (N (sAt N n + 1)) ty = 2 then sLp pm pd N n ty k (p + 1) (fin + 1)
       else sLp pm pd N n ty k (p + 1) fin)
    else (-1, fin)
def sLc (pm pd N : Int → Int) (ty : Int) : Nat → Int → Int → Int × (Int × Int)
  | 0, _, fin => (-1, (-1, fin))
  | k + 1, n, fin => if n < N 13 then
      (if (sLp pm pd N n ty 3 0 fin).1 = -1 then sLc pm pd N ty k (n + 1) (sLp pm pd N n ty 3 0 fin).2
       else (n, sLp pm pd N n ty 3 0 fin))
    else (-1, (-1, fin))
def sCat (pm pd N : Int → Int) (ty : Int) : Int × (Int × Int) := sLc pm pd N ty 8 0 0
def sFin (pd : Int → Int) (ty before : Int) : Nat → Int → (Int → Int) → (Int → Int)
  | 0, _, N => N
  | k + 1, p, N => if p < before then
      (if sDA pd N (N (sAt N 0)) p (N (sAt N 0 + 1)) ty = 2 then sFin pd ty before k (p + 1) (ui (ui N (79 + N 78) (10 * N (sAt N 0) + p)) 78 (N 78 + 1))
       else sFin pd ty before k (p + 1) N)
    else N
def sUnw (sv pm pd : Int → Int) (ty : Int) : Nat → (Int → Int) → (Int → Int)
  | 0, N => N
  | k + 1, N => sUnw sv pm pd ty k (sBack sv (sFin pd ty (pm (N (sAt N 0))) 3 0 N))
def sEnd (pd : Int → Int) (ty cp : Int) (N : Int → Int) : Int → Int :=
  ui (sFin pd ty cp 3 0 N) (sAt N 0 + 1) (pd (15 * N (sAt N 0) + 5 * cp + 4))
def sRaise (sv pm pd N : Int → Int) (ty c cp : Int) : Int → Int := sEnd pd ty cp (sUnw sv pm pd ty c.toNat (ui N 78 0))
/-! what is given of the reference's cells: the functions, and a row of kinds, registers, frames -/
def CVd (D : qD) : Prop :=
  (0 ≤ D 28 14 ∧ D 28 14 ≤ 3) ∧
  (∀ f, 0 ≤ f → f < D 28 14 → 0 ≤ D 37 f ∧ D 37 f ≤ 8 ∧ 0 ≤ D 38 f ∧ D 38 f ≤ 3) ∧
  (∀ f n, 0 ≤ f → f < D 28 14 → 0 ≤ n → n < D 37 f →
    (D 39 (24 * f + 3 * n) = 43 ∧ 1 ≤ D 39 (24 * f + 3 * n + 1) ∧ D 39 (24 * f + 3 * n + 1) ≤ 9) ∨
    (D 39 (24 * f + 3 * n) = 115 ∧ 0 ≤ D 39 (24 * f + 3 * n + 1) ∧ D 39 (24 * f + 3 * n + 1) ≤ 3 ∧ 0 ≤ D 39 (24 * f + 3 * n + 2) ∧ D 39 (24 * f + 3 * n + 2) ≤ 5) ∨
    (D 39 (24 * f + 3 * n) = 117 ∧ 0 ≤ D 39 (24 * f + 3 * n + 1) ∧ D 39 (24 * f + 3 * n + 1) ≤ 3) ∨ D 39 (24 * f + 3 * n) = 109 ∨ D 39 (24 * f + 3 * n) = 98) ∧
  (∀ i, 0 ≤ i → i < 40 * D 28 14 → -1 ≤ D 34 i ∧ D 34 i ≤ 5) ∧
  (∀ i, 0 ≤ i → i < 10 * D 28 14 → 0 ≤ D 35 i ∧ D 35 i ≤ 3 ∧ 0 ≤ D 36 i ∧ D 36 i ≤ 9) ∧
  (∀ f p, 0 ≤ f → f < D 28 14 → 0 ≤ p → p < D 38 f →
    0 ≤ D 40 (15 * f + 5 * p) ∧ D 40 (15 * f + 5 * p) ≤ 4 ∧ 0 ≤ D 40 (15 * f + 5 * p + 1) ∧ D 40 (15 * f + 5 * p + 1) ≤ 9 ∧ 0 ≤ D 40 (15 * f + 5 * p + 2) ∧ D 40 (15 * f + 5 * p + 2) ≤ 9 ∧
    0 ≤ D 40 (15 * f + 5 * p + 3) ∧ D 40 (15 * f + 5 * p + 3) ≤ 4 ∧ 0 ≤ D 40 (15 * f + 5 * p + 4) ∧ D 40 (15 * f + 5 * p + 4) ≤ 9)
def RVd (nf : Int) (N : Int → Int) : Prop :=
  (0 ≤ N 13 ∧ N 13 ≤ 8) ∧ (∀ l, 0 ≤ l → l < N 13 → 0 ≤ N (14 + 8 * l) ∧ N (14 + 8 * l) < nf ∧ 0 ≤ N (14 + 8 * l + 1) ∧ N (14 + 8 * l + 1) ≤ 9) ∧
  (∀ k, 0 ≤ k → k < 9 → 0 ≤ N k ∧ N k ≤ 4) ∧ (0 ≤ N 78 ∧ N 78 ≤ 24) ∧ (∀ k, 0 ≤ k → k < 110 → qR (N k))
end
section
/-! ## the reference's methods: reads -/
section RA
variable {S : (Nat → Int32) × Nat} {t : qT} {D : qD} {Q : Int → qT → qD → Prop}
theorem c110 {v lo hi : Int} (hv : qR v) (hl : qR lo) (hh : qR hi) (k : Q (if lo ≤ v ∧ v ≤ hi then 1 else 0) t D) : wp S 110 0 [some (ql v), none, some (ql lo), none, some (ql hi), none] [] t D Q := by
  refine b110_0 (chk_i (by omega) (chk_i qcmp_R (ite_i (fun h => ?_) (fun h => chk_i (by omega) (chk_i qcmp_R (ite_i (fun h2 => ?_) (fun h2 => ?_)))))))
  · rw [qcmp_lt] at h
    rwa [if_neg (by omega)] at k
  · rw [qcmp_gt] at h2
    rwa [if_neg (by omega)] at k
  · rw [qcmp_lt] at h; rw [qcmp_gt] at h2
    rwa [if_pos (by omega)] at k
theorem c128 (h : 0 ≤ D 28 14 ∧ D 28 14 ≤ 3) (k : Q (if D 28 14 = 0 then 1 else 0) t D) : wp S 128 0 [some (qs 28)] [] t D Q := by
  refine b128_0 (chk_i (by omega) (ite_i (fun h => ?_) (fun h => ?_)))
  · rwa [if_pos h] at k
  · rwa [if_neg h] at k
theorem c129 {f : Int} (hf : qR f) (h : 0 ≤ D 28 14 ∧ D 28 14 ≤ 3) (k : Q (if 0 ≤ f ∧ f < D 28 14 then 1 else 0) t D) : wp S 129 0 [some (qs 28), some (qi f)] [] t D Q := by
  refine b129_0 (chk_i hf (chk_i (by omega) (c110 hf (by omega) (by omega) ?_)))
  by_cases c : 0 ≤ f ∧ f < D 28 14
  · rw [if_pos c] at k
    rw [if_pos (by omega)]
    exact chk_i (by omega) k
  · rw [if_neg c] at k
    rw [if_neg (by omega)]
    exact chk_i (by omega) k
theorem c130 {f p : Int} (hf : qR f) (hp : qR p) (h : CVd D) (k : Q (if 0 ≤ f ∧ f < D 28 14 ∧ 0 ≤ p ∧ p < D 38 f then 1 else 0) t D) : wp S 130 0 [some (qs 28), some (qi f), some (qi p)] [] t D Q := by
  refine b130_0 (c129 hf h.1 ?_)
  by_cases c : 0 ≤ f ∧ f < D 28 14
  · have h2 := h.2.1 f c.1 c.2
    have h1 := h.1
    rw [if_pos c]
    refine chk_i (by omega) (ite_i (fun h => absurd h (by omega)) fun _ => chk_i hp (chk_i (by omega) (chk_i (by omega) (c110 hp (by omega) (by omega) ?_))))
    by_cases c2 : 0 ≤ p ∧ p < D 38 f
    · rw [if_pos (by omega)] at k
      rw [if_pos (by omega)]
      exact chk_i (by omega) (ite_i (fun h => absurd h (by omega)) fun _ => k)
    · rw [if_neg (by omega)] at k
      rw [if_neg (by omega)]
      exact chk_i (by omega) (ite_i (fun h => k) fun h => absurd rfl h)
  · rw [if_neg c]
    rw [if_neg (by omega)] at k
    exact chk_i (by omega) (ite_i (fun h => k) fun h => absurd rfl h)
theorem c133 (k : Q (D 42 13) t D) : wp S 133 0 [some (qs 28)] [] t D Q := b133_0 k
theorem c134 {n : Int} (k : Q (sAt (D 42) n) t D) : wp S 134 0 [some (qs 28), some (qi n)] [] t D Q := b134_0 k
theorem c143 {k o ty : Int} (hk : qR k) (ho : qR o) (ht : qR ty) (h : Q (if sDoes k o ty = 1 then 1 else 0) t D) : wp S 143 0 [some (qi k), some (qi o), some (qi ty)] [] t D Q := by
  unfold sDoes at h
  refine b143_0 (chk_i hk (ite_i (fun h1 => ?_) fun h1 => ite_i (fun h2 => ?_) fun h2 => ite_i (fun h3 => chk_i ht (chk_i ho (ite_i (fun h4 => ?_) fun h4 => ?_))) fun h3 => chk_i ht (chk_i ho (ite_i (fun h4 => ?_) fun h4 => ?_))))
  · simpa [h1] using h
  · simpa [h2] using h
  · simpa [h1, h2, h3, h4] using h
  · simpa [h1, h2, h3, h4] using h
  · simpa [h1, h2, h3, h4] using h
  · rw [if_neg h1, if_neg h2, if_neg h3, if_neg h4] at h
    by_cases h5 : k = 4
    · rw [if_pos h5] at h; exact h
    · rw [if_neg h5] at h; exact h
theorem c144 {k o ty : Int} (hk : qR k) (ho : qR o) (ht : qR ty) (h : Q (sDoes k o ty) t D) : wp S 144 0 [some (qi k), some (qi o), some (qi ty)] [] t D Q := by
  refine b144_0 (c143 hk ho ht ?_)
  by_cases c : sDoes k o ty = 1
  · rw [if_pos c]
    rw [c] at h
    exact chk_i (by omega) (ite_i (fun h => absurd h (by omega)) fun _ => h)
  · rw [if_neg c]
    have e : sDoes k o ty = if k = 2 then 2 else if k = 4 then 2 else 0 := by
      unfold sDoes at c ⊢
      (repeat' split) <;> first | rfl | omega
    rw [e] at h
    refine chk_i (by omega) (ite_i (fun _ => chk_i hk (ite_i (fun h2 => ?_) fun h2 => chk_i hk (ite_i (fun h4 => ?_) fun h4 => ?_))) fun h => absurd rfl h)
    · rwa [if_pos h2] at h
    · rwa [if_neg h2, if_pos h4] at h
    · rwa [if_neg h2, if_neg h4] at h
theorem sDoes_r (k o ty : Int) : 0 ≤ sDoes k o ty ∧ sDoes k o ty ≤ 2 := by
  unfold sDoes
  (repeat' split) <;> omega
theorem sDA_r (pd N : Int → Int) (f p adr ty : Int) : 0 ≤ sDA pd N f p adr ty ∧ sDA pd N f p adr ty ≤ 2 := by
  unfold sDA
  split
  · exact sDoes_r _ _ _
  · omega
theorem c145 {f p adr ty : Int} (h : CVd D) (hf : 0 ≤ f ∧ f < D 28 14) (hp : 0 ≤ p ∧ p < D 38 f) (ha : qR adr) (ht : qR ty) (hN : ∀ k, 0 ≤ k → k < 9 → 0 ≤ D 42 k ∧ D 42 k ≤ 4) (k : Q (sDA (D 40) (D 42) f p adr ty) t D) : wp S 145 0 [some (qs 28), some (qi f), some (qi p), some (qi adr), some (qi ty), none] [] t D Q := by
  have h1 := h.1
  have h2 := h.2.1 f hf.1 hf.2
  have h3 := h.2.2.2.2.2 f p hf.1 hf.2 hp.1 hp.2
  have h4 := hN (3 * f + p) (by omega) (by omega)
  refine b145_0 (chk_i ha (chk_i (by omega) (chk_i (by omega) (chk_i (by omega) (chk_i (by omega) (c110 ha (by omega) (by omega) ?_))))))
  unfold sDA at k
  by_cases c : D 40 (15 * f + 5 * p + 1) ≤ adr ∧ adr ≤ D 40 (15 * f + 5 * p + 2)
  · rw [if_pos c] at k ⊢
    exact chk_i (by omega) (ite_i (fun h => absurd h (by omega)) fun _ => chk_i (by omega) (chk_i (by omega) (c144 (by omega) (by omega) ht k)))
  · rw [if_neg c] at k ⊢
    exact chk_i (by omega) (ite_i (fun _ => k) fun h => absurd rfl h)
end RA
end
section
/-! ## the reference's methods: who catches -/
def s28 (R : Int → Int) (c p f : Int) : Int → Int := fun i => if i = 28 then c else if i = 29 then p else if i = 30 then f else R i
theorem s28_a (R : Int → Int) (c p f x : Int) : ui (s28 R c p f) 28 x = s28 R x p f := by
  funext j; unfold ui s28; (repeat' split) <;> first | rfl | omega
theorem s28_b (R : Int → Int) (c p f x : Int) : ui (s28 R c p f) 29 x = s28 R c x f := by
  funext j; unfold ui s28; (repeat' split) <;> first | rfl | omega
theorem s28_c (R : Int → Int) (c p f x : Int) : ui (s28 R c p f) 30 x = s28 R c p x := by
  funext j; unfold ui s28; (repeat' split) <;> first | rfl | omega
theorem s28_0 (R : Int → Int) (c p f : Int) : ui (ui (ui R 28 c) 29 p) 30 f = s28 R c p f := by
  funext j; unfold ui s28; (repeat' split) <;> first | rfl | omega
theorem s28_u (R : Int → Int) (c p f c' p' f' : Int) : s28 (s28 R c p f) c' p' f' = s28 R c' p' f' := by
  funext j; unfold s28; (repeat' split) <;> rfl
section RB
variable {S : (Nat → Int32) × Nat} {t : qT} {D : qD} {Q : Int → qT → qD → Prop}
theorem sAt_r {nf : Int} {N : Int → Int} (h : RVd nf N) {n : Int} (h0 : 0 ≤ n) (h1 : n < N 13) : (14 ≤ sAt N n ∧ sAt N n + 7 < 78) ∧ (0 ≤ N (sAt N n) ∧ N (sAt N n) < nf) ∧ 0 ≤ N (sAt N n + 1) ∧ N (sAt N n + 1) ≤ 9 := by
  have h2 := h.1
  have h3 := h.2.1 (N 13 - 1 - n) (by omega) (by omega)
  unfold sAt
  refine ⟨by omega, ⟨h3.1, h3.2.1⟩, h3.2.2⟩
theorem c146_out {ty n a p : Int} {o5 : Option qV} (hv : (0 ≤ a ∧ a < 110) ∧ (0 ≤ D 42 a ∧ D 42 a < 3) ∧ qR p ∧ qR (D 38 (D 42 a)) ∧ qR (D 28 28)) (hc : ¬ D 28 28 = -1) (k : wp S 146 17 [some (qs 28), some (qi ty), some (qi (n + 1)), some (qi a), some (qi p), o5] [] t D Q) :
    wp S 146 42 [some (qs 28), some (qi ty), some (qi n), some (qi a), some (qi p), o5] [] t D Q :=
  b146_42 (chk_i hv.1 (chk_i hv.2.1 (chk_i hv.2.2.1 (chk_i hv.2.2.2.1 (ite_i (fun _ => chk_i hv.2.2.2.2 (ite_i (fun h => absurd h hc) fun _ => k)) fun _ => k)))))
theorem c146_in {ty n : Int} {R : Int → Int} (ht : 0 ≤ ty ∧ ty ≤ 4) (hn : 0 ≤ n ∧ n < D 42 13) (hR : R 14 = D 28 14) (hC : CVd D) (hV : RVd (D 28 14) (D 42)) :
    ∀ (k : Nat) (p fin : Int) (o5 : Option qV), p + k = 3 → 0 ≤ p →
      (∀ o4 o5 : Option qV, wp S 146 17 [some (qs 28), some (qi ty), some (qi (n + 1)), some (qi (sAt (D 42) n)), o4, o5] [] t
        (upr D 28 (if (sLp (D 38) (D 40) (D 42) n ty k p fin).1 = -1 then s28 R (-1) (-1) (sLp (D 38) (D 40) (D 42) n ty k p fin).2 else s28 R n (sLp (D 38) (D 40) (D 42) n ty k p fin).1 (sLp (D 38) (D 40) (D 42) n ty k p fin).2)) Q) →
      wp S 146 42 [some (qs 28), some (qi ty), some (qi n), some (qi (sAt (D 42) n)), some (qi p), o5] [] t (upr D 28 (s28 R (-1) (-1) fin)) Q := by
  have ha := sAt_r hV hn.1 hn.2
  have h1 := hC.1
  have h2 := hC.2.1 (D 42 (sAt (D 42) n)) ha.2.1.1 ha.2.1.2
  have hC' : ∀ x, CVd (upr D 28 (s28 R (-1) (-1) x)) := fun x => by
    have : (upr D 28 (s28 R (-1) (-1) x)) 28 14 = D 28 14 := hR
    unfold CVd; rw [this]; exact hC
  intro k
  induction k with
  | zero =>
    intro p fin o5 hk hp hQ
    have e : sLp (D 38) (D 40) (D 42) n ty 0 p fin = (-1, fin) := rfl
    rw [e] at hQ
    refine b146_42 (chk_i ?_ (chk_i ?_ (chk_i (by omega) (chk_i ?_ (ite_i (fun h => ?_) fun _ => ?_)))))
    · show 0 ≤ sAt (D 42) n ∧ _; omega
    · show 0 ≤ D 42 (sAt (D 42) n) ∧ D 42 (sAt (D 42) n) < 3; omega
    · show qR (D 38 (D 42 (sAt (D 42) n))); omega
    · have h : p < D 38 (D 42 (sAt (D 42) n)) := h
      exact absurd h (by omega)
    · exact hQ _ _
  | succ k ih =>
    intro p fin o5 hk hp hQ
    refine b146_42 (chk_i ?_ (chk_i ?_ (chk_i (by omega) (chk_i ?_ (ite_i (fun h => ?_) fun h => ?_)))))
    · show 0 ≤ sAt (D 42) n ∧ _; omega
    · show 0 ≤ D 42 (sAt (D 42) n) ∧ D 42 (sAt (D 42) n) < 3; omega
    · show qR (D 38 (D 42 (sAt (D 42) n))); omega
    · have h : p < D 38 (D 42 (sAt (D 42) n)) := h
      refine chk_i (show qR (-1) by omega) (ite_i (fun _ => ?_) fun h => absurd rfl h)
      refine chk_i ?_ (chk_i ?_ (c145 (hC' fin) ?_ ?_ ?_ (by omega) ?_ ?_))
      · show 0 ≤ sAt (D 42) n ∧ _; omega
      · show 0 ≤ sAt (D 42) n + 1 ∧ _; omega
      · show 0 ≤ D 42 (sAt (D 42) n) ∧ D 42 (sAt (D 42) n) < R 14
        rw [hR]; exact ha.2.1
      · exact ⟨hp, h⟩
      · show qR (D 42 (sAt (D 42) n + 1)); omega
      · exact hV.2.2.1
      · simp only [upr_b, Nat.reduceBEq]
        have hr := sDA_r (D 40) (D 42) (D 42 (sAt (D 42) n)) p (D 42 (sAt (D 42) n + 1)) ty
        have e : sLp (D 38) (D 40) (D 42) n ty (k + 1) p fin = if p < D 38 (D 42 (sAt (D 42) n)) then
      (if sDA (D 40) (D 42) (D 42 (sAt (D 42) n)) p (D 42 (sAt (D 42) n + 1)) ty = 1 then (p, fin)
       else if sDA (D 40) (D 42) (D 42 (sAt (D 42) n)) p (D 42 (sAt (D 42) n + 1)) ty = 2 then sLp (D 38) (D 40) (D 42) n ty k (p + 1) (fin + 1)
       else sLp (D 38) (D 40) (D 42) n ty k (p + 1) fin)
    else (-1, fin) := rfl
        rw [if_pos h] at e
        refine chk_i (by omega) (ite_i (fun h2 => ?_) fun h2 => ?_)
        · refine chk_i (by omega) (ite_i (fun h1 => absurd h1 (by omega)) fun h1 => ?_)
          rw [if_neg h1, if_pos h2] at e
          rw [e] at hQ
          have := ih (p + 1) (fin + 1) (some (qi (sDA (D 40) (D 42) (D 42 (sAt (D 42) n)) p (D 42 (sAt (D 42) n + 1)) ty))) (by omega) (by omega) hQ
          rw [up_eq, upr_u, upr_s, s28_c]
          exact this
        · refine chk_i (by omega) (ite_i (fun h1 => ?_) fun h1 => ?_)
          · rw [if_pos h1] at e
            rw [e] at hQ
            rw [if_neg (by omega)] at hQ
            rw [up_eq, up_eq, up_eq, upr_u, upr_u, upr_u, upr_s, upr_s, upr_s, s28_c, s28_a, s28_b]
            rw [show (s28 R (-1) (-1) fin 30 + 0) = fin from Int.add_zero _]
            refine c146_out ?_ (show ¬ n = -1 by omega) (hQ _ _)
            refine ⟨?_, ?_, by omega, ?_, ?_⟩
            · show 0 ≤ sAt (D 42) n ∧ _; omega
            · show 0 ≤ D 42 (sAt (D 42) n) ∧ D 42 (sAt (D 42) n) < 3; omega
            · show qR (D 38 (D 42 (sAt (D 42) n))); omega
            · have := hV.1
              show qR n; omega
          · rw [if_neg h1, if_neg h2] at e
            rw [e] at hQ
            have := ih (p + 1) fin (some (qi (sDA (D 40) (D 42) (D 42 (sAt (D 42) n)) p (D 42 (sAt (D 42) n + 1)) ty))) (by omega) (by omega) hQ
            rw [up_eq, upr_u, upr_s, s28_c, show (s28 R (-1) (-1) fin 30 + 0) = fin from Int.add_zero _]
            exact this
    · have h : ¬ p < D 38 (D 42 (sAt (D 42) n)) := h
      have e : sLp (D 38) (D 40) (D 42) n ty (k + 1) p fin = (-1, fin) := if_neg h
      rw [e] at hQ
      exact hQ _ _
theorem c146_17 {ty : Int} {R : Int → Int} (ht : 0 ≤ ty ∧ ty ≤ 4) (hR : R 14 = D 28 14) (hC : CVd D) (hV : RVd (D 28 14) (D 42)) :
    ∀ (k : Nat) (n fin : Int) (o3 o4 o5 : Option qV), n + k = 8 → 0 ≤ n →
      Q 0 t (upr D 28 (s28 R (sLc (D 38) (D 40) (D 42) ty k n fin).1 (sLc (D 38) (D 40) (D 42) ty k n fin).2.1 (sLc (D 38) (D 40) (D 42) ty k n fin).2.2)) →
      wp S 146 17 [some (qs 28), some (qi ty), some (qi n), o3, o4, o5] [] t (upr D 28 (s28 R (-1) (-1) fin)) Q := by
  have h1 := hV.1
  intro k
  induction k with
  | zero =>
    intro n fin o3 o4 o5 hk hn hQ
    refine b146_17 (c133 (chk_i (by omega) (chk_i ?_ (ite_i (fun h => ?_) fun _ => hQ))))
    · show qR (D 42 13); omega
    · have h : n < D 42 13 := h
      exact absurd h (by omega)
  | succ k ih =>
    intro n fin o3 o4 o5 hk hn hQ
    refine b146_17 (c133 (chk_i (by omega) (chk_i ?_ (ite_i (fun h => ?_) fun h => ?_))))
    · show qR (D 42 13); omega
    · have h : n < D 42 13 := h
      have e : sLc (D 38) (D 40) (D 42) ty (k + 1) n fin = if n < D 42 13 then
      (if (sLp (D 38) (D 40) (D 42) n ty 3 0 fin).1 = -1 then sLc (D 38) (D 40) (D 42) ty k (n + 1) (sLp (D 38) (D 40) (D 42) n ty 3 0 fin).2
       else (n, sLp (D 38) (D 40) (D 42) n ty 3 0 fin))
    else (-1, (-1, fin)) := rfl
      rw [if_pos h] at e
      refine chk_i (show qR (-1) by omega) (ite_i (fun _ => c134 ?_) fun h => absurd rfl h)
      refine c146_in ht ⟨hn, h⟩ hR hC hV 3 0 fin o5 rfl (Int.le_refl _) fun o4 o5 => ?_
      by_cases c : (sLp (D 38) (D 40) (D 42) n ty 3 0 fin).1 = -1
      · rw [if_pos c]
        rw [if_pos c] at e
        refine ih (n + 1) _ _ _ _ (by omega) (by omega) ?_
        rw [e] at hQ
        exact hQ
      · rw [if_neg c]
        rw [if_neg c] at e
        rw [e] at hQ
        refine b146_17 (c133 (chk_i (by omega) (chk_i ?_ (ite_i (fun h => chk_i ?_ (ite_i (fun h2 => ?_) fun _ => hQ)) fun _ => hQ))))
        · show qR (D 42 13); omega
        · show qR n; omega
        · have h2 : n = -1 := h2
          exact absurd h2 (by omega)
    · have h : ¬ n < D 42 13 := h
      have e : sLc (D 38) (D 40) (D 42) ty (k + 1) n fin = (-1, (-1, fin)) := if_neg h
      rw [e] at hQ
      exact hQ
theorem c146 {ty : Int} (ht : 0 ≤ ty ∧ ty ≤ 4) (hC : CVd D) (hV : RVd (D 28 14) (D 42))
    (k : Q 0 t (upr D 28 (s28 (D 28) (sCat (D 38) (D 40) (D 42) ty).1 (sCat (D 38) (D 40) (D 42) ty).2.1 (sCat (D 38) (D 40) (D 42) ty).2.2))) :
    wp S 146 0 [some (qs 28), some (qi ty), none, none, none, none] [] t D Q := by
  refine b146_0 ?_
  rw [up_eq, up_eq, up_eq, upr_u, upr_u, upr_s, upr_s, s28_0]
  exact c146_17 ht rfl hC hV 8 0 0 _ _ _ rfl (Int.le_refl _) k
theorem sLp_r (pm pd N : Int → Int) (n ty : Int) : ∀ (k : Nat) (p fin : Int), p + k ≤ 3 → 0 ≤ p → 0 ≤ fin → ((sLp pm pd N n ty k p fin).1 = -1 ∨ (p ≤ (sLp pm pd N n ty k p fin).1 ∧ (sLp pm pd N n ty k p fin).1 < 3 ∧ (sLp pm pd N n ty k p fin).1 < pm (N (sAt N n)))) ∧ fin ≤ (sLp pm pd N n ty k p fin).2 ∧ (sLp pm pd N n ty k p fin).2 ≤ fin + k := by
  intro k
  induction k with
  | zero => intro p fin _ _ _; exact ⟨.inl rfl, Int.le_refl _, by show fin ≤ fin + (0 : Nat); omega⟩
  | succ k ih =>
    intro p fin h1 h2 h3
    unfold sLp
    split
    · rename_i h
      split
      · exact ⟨.inr ⟨Int.le_refl _, by show p < 3; omega, h⟩, Int.le_refl _, by show fin ≤ fin + _; omega⟩
      · split
        · have := ih (p + 1) (fin + 1) (by omega) (by omega) (by omega)
          omega
        · have := ih (p + 1) fin (by omega) (by omega) (by omega)
          omega
    · exact ⟨.inl rfl, Int.le_refl _, by show fin ≤ fin + _; omega⟩
theorem sLc_r (pm pd N : Int → Int) (ty : Int) : ∀ (k : Nat) (n fin : Int), n + k ≤ 8 → 0 ≤ n → 0 ≤ fin → (((sLc pm pd N ty k n fin).1 = -1 ∧ (sLc pm pd N ty k n fin).2.1 = -1) ∨ (n ≤ (sLc pm pd N ty k n fin).1 ∧ (sLc pm pd N ty k n fin).1 < N 13 ∧ 0 ≤ (sLc pm pd N ty k n fin).2.1 ∧ (sLc pm pd N ty k n fin).2.1 < 3 ∧ (sLc pm pd N ty k n fin).2.1 < pm (N (sAt N (sLc pm pd N ty k n fin).1)))) ∧ fin ≤ (sLc pm pd N ty k n fin).2.2 ∧ (sLc pm pd N ty k n fin).2.2 ≤ fin + 3 * k := by
  intro k
  induction k with
  | zero => intro n fin _ _ _; exact ⟨.inl ⟨rfl, rfl⟩, Int.le_refl _, by show fin ≤ fin + 3 * (0 : Nat); omega⟩
  | succ k ih =>
    intro n fin h1 h2 h3
    unfold sLc
    have hp := sLp_r pm pd N n ty 3 0 fin (by omega) (by omega) h3
    split
    · rename_i h
      split
      · have := ih (n + 1) _ (by omega) (by omega) (Int.le_trans h3 hp.2.1)
        omega
      · rename_i h5
        refine ⟨.inr ⟨Int.le_refl _, h, ?_, ?_, ?_⟩, ?_, ?_⟩ <;> dsimp only <;> omega
    · exact ⟨.inl ⟨rfl, rfl⟩, Int.le_refl _, by show fin ≤ fin + _; omega⟩
theorem sCat_r (pm pd N : Int → Int) (ty : Int) : (((sCat pm pd N ty).1 = -1 ∧ (sCat pm pd N ty).2.1 = -1) ∨ (0 ≤ (sCat pm pd N ty).1 ∧ (sCat pm pd N ty).1 < N 13 ∧ 0 ≤ (sCat pm pd N ty).2.1 ∧ (sCat pm pd N ty).2.1 < 3 ∧ (sCat pm pd N ty).2.1 < pm (N (sAt N (sCat pm pd N ty).1)))) ∧ 0 ≤ (sCat pm pd N ty).2.2 ∧ (sCat pm pd N ty).2.2 ≤ 24 := by
  have := sLc_r pm pd N ty 8 0 0 (by omega) (by omega) (by omega)
  unfold sCat
  omega
end RB
end
section
/-! ## the reference's methods: what is done to the row -/
section RC
variable {S : (Nat → Int32) × Nat} {t : qT} {D : qD} {Q : Int → qT → qD → Prop}
theorem sAt_ui {N : Int → Int} {i x n : Int} (h : i ≠ 13) : sAt (ui N i x) n = sAt N n := by unfold sAt; rw [ui_n (fun q => h q.symm)]
theorem sAt_cpf {N g : Int → Int} {lo hi n : Int} (h : ¬ (lo ≤ 13 ∧ 13 < hi)) : sAt (cpf N g lo hi) n = sAt N n := by unfold sAt; rw [cpf_n h]
theorem RVd.fin {nf x : Int} {N : Int → Int} (h : RVd nf N) (h2 : N 78 < 24) (hx : qR x) : RVd nf (ui (ui N (79 + N 78) x) 78 (N 78 + 1)) := by
  obtain ⟨h1, h3, h4, h5, h6⟩ := h
  refine ⟨?_, fun l a b => ?_, fun k a b => ?_, ?_, fun k a b => ?_⟩
  · rw [ui_n (by decide), ui_n (by omega)]; exact h1
  · rw [ui_n (by decide), ui_n (by omega)] at b
    rw [ui_n (by omega), ui_n (by omega), ui_n (by omega), ui_n (by omega)]; exact h3 l a b
  · rw [ui_n (by omega), ui_n (by omega)]; exact h4 k a b
  · rw [ui_s]; omega
  · unfold ui
    split
    · omega
    · split
      · exact hx
      · exact h6 k a b
theorem c149_9 {ty bef : Int} (hC : CVd D) (ht : 0 ≤ ty ∧ ty ≤ 4) (hb0 : 0 ≤ bef) : ∀ (k : Nat) (p a : Int) (N : Int → Int), p + k = 3 → 0 ≤ p → a = sAt N 0 → RVd (D 28 14) N → 1 ≤ N 13 → N 78 + k ≤ 24 → bef ≤ D 38 (N a) →
    Q 0 t (upr D 42 (sFin (D 40) ty bef k p N)) → wp S 149 9 [some (qs 28), some (qi ty), some (qi bef), some (qi a), some (qi p)] [] t (upr D 42 N) Q := by
  intro k
  induction k with
  | zero =>
    intro p a N hk hp hae hV h13 h78 hb hQ
    have ha := sAt_r hV (Int.le_refl 0) (by omega)
    rw [← hae] at ha
    have h2 := hC.2.1 (N a) ha.2.1.1 ha.2.1.2
    refine b149_9 (chk_i (by omega) (chk_i (by omega) (ite_i (fun h => absurd h (by omega)) fun h => hQ)))
  | succ k ih =>
    intro p a N hk hp hae hV h13 h78 hb hQ
    have ha := sAt_r hV (Int.le_refl 0) (by omega)
    rw [← hae] at ha
    have h2 := hC.2.1 (N a) ha.2.1.1 ha.2.1.2
    have h4 := hV.2.2.2.1
    have hr := sDA_r (D 40) N (N a) p (N (a + 1)) ty
    unfold sFin at hQ
    rw [← hae] at hQ
    refine b149_9 (chk_i (by omega) (chk_i (by omega) (ite_i (fun h => ?_) fun h => ?_)))
    · simp only [upr_s]
      rw [if_pos h] at hQ
      refine chk_i (by omega) (chk_i (by omega) (c145 hC ha.2.1 ⟨hp, Int.lt_of_lt_of_le h hb⟩ (by show qR (N (a + 1)); omega) (by omega) hV.2.2.1 ?_))
      simp only [up_eq, upr_u, upr_s, upr_b, Nat.reduceBEq]
      refine chk_i (by omega) (ite_i (fun h2 => ?_) fun h2 => ?_)
      · rw [if_pos h2] at hQ
        have e : ui N (79 + N 78) (10 * N a + p) 78 = N 78 := ui_n (by omega)
        rw [e]
        have hV' := hV.fin (x := 10 * N a + p) (by omega) (by have := hC.1; omega)
        refine chk_i (by omega) (chk_i (by omega) (ih (p + 1) a _ (by omega) (by omega) ?_ hV' ?_ ?_ ?_ hQ))
        · rw [sAt_ui (by decide), sAt_ui (by omega)]; exact hae
        · rw [ui_n (by decide), ui_n (by omega)]; exact h13
        · rw [ui_s]; omega
        · rw [ui_n (by omega), ui_n (by omega)]; exact hb
      · rw [if_neg h2] at hQ
        exact ih (p + 1) a N (by omega) (by omega) hae hV h13 (by omega) hb hQ
    · rw [if_neg h] at hQ
      exact hQ
theorem c149 {ty bef : Int} (hC : CVd D) (ht : 0 ≤ ty ∧ ty ≤ 4) (hb0 : 0 ≤ bef) (hV : RVd (D 28 14) (D 42)) (h13 : 1 ≤ D 42 13) (h78 : D 42 78 ≤ 21) (hb : bef ≤ D 38 (D 42 (sAt (D 42) 0)))
    (k : Q 0 t (upr D 42 (sFin (D 40) ty bef 3 0 (D 42)))) : wp S 149 0 [some (qs 28), some (qi ty), some (qi bef), none, none] [] t D Q := by
  refine b149_0 (c134 ?_)
  have := c149_9 (S := S) (t := t) (Q := Q) hC ht hb0 3 0 (sAt (D 42) 0) (D 42) rfl (Int.le_refl _) rfl hV h13 (by omega) hb k
  rwa [upr_id] at this
theorem c138_8 {N : Int → Int} (hC : CVd D) (hV : RVd (D 28 14) N) (h13 : 1 ≤ N 13) : ∀ (k : Nat) (j : Int) (o3 : Option qV), j + k = 4 → 0 ≤ j →
    Q 0 t (upr D 42 (sBack (D 34) N)) → wp S 138 8 [some (qs 28), some (qi (sAt N 0)), some (qi j), o3] [] t (upr D 42 (cpf N (fun i => sReg (D 34) N 0 (i - 9) (N i)) 9 (9 + j))) Q := by
  have ha := sAt_r hV (Int.le_refl 0) (by omega)
  have h1 := hC.1
  intro k
  induction k with
  | zero =>
    intro j o3 hk hj hQ
    obtain rfl : j = 4 := by omega
    refine b138_8 (chk_i (by omega) (ite_i (fun h => absurd h (by omega)) fun h => ?_))
    simp only [up_eq, upr_u, upr_s]
    rw [cpf_n (i := 13) (by omega)]
    exact hQ
  | succ k ih =>
    intro j o3 hk hj hQ
    refine b138_8 (chk_i (by omega) (ite_i (fun h => ?_) fun h => absurd h (by omega)))
    simp only [up_eq, upr_u, upr_s, upr_b, Nat.reduceBEq]
    rw [cpf_n (i := sAt N 0) (by omega), cpf_n (i := sAt N 0 + 1) (by omega), cpf_n (i := 9 + j) (by omega)]
    have hc := hC.2.2.2.1 (40 * N (sAt N 0) + 4 * N (sAt N 0 + 1) + j) (by omega) (by omega)
    have key : ∀ v, v = sReg (D 34) N 0 (9 + j - 9) (N (9 + j)) → ∀ o, wp S 138 8 [some (qs 28), some (qi (sAt N 0)), some (qi (j + 1)), o] [] t (upr D 42 (ui (cpf N (fun i => sReg (D 34) N 0 (i - 9) (N i)) 9 (9 + j)) (9 + j) v)) Q := fun v hv o => by
      have := ih (j + 1) o (by omega) (by omega) hQ
      rw [hv, cpf_s (g := fun i => sReg (D 34) N 0 (i - 9) (N i)) (by omega), show 9 + j + 1 = 9 + (j + 1) by omega]
      exact this
    have e9 : 9 + j - 9 = j := by omega
    refine chk_i (by omega) (chk_i (by omega) (chk_i (by omega) (chk_i (by omega) (ite_i (fun h5 => ?_) fun h5 => ?_))))
    · refine chk_i (by omega) (chk_i (by omega) (key _ ?_ _))
      unfold sReg sCell
      rw [e9, if_pos h5]
    · refine chk_i (by omega) (chk_i (by omega) (key _ ?_ _))
      unfold sReg sCell
      rw [e9, if_neg h5, cpf_n (by omega)]
theorem c138 (hC : CVd D) (hV : RVd (D 28 14) (D 42)) (h13 : 1 ≤ D 42 13) (k : Q 0 t (upr D 42 (sBack (D 34) (D 42)))) : wp S 138 0 [some (qs 28), none, none, none] [] t D Q := by
  refine b138_0 (c134 ?_)
  have := c138_8 (S := S) (t := t) (Q := Q) hC hV h13 4 0 none rfl (Int.le_refl _) k
  rw [show (9 + 0 : Int) = 9 from rfl, cpf_0, upr_id] at this
  exact this
theorem c135_12 {f a : Int} (hC : CVd D) (hf : 0 ≤ f ∧ f < D 28 14) (ha : 14 ≤ a ∧ a + 7 < 78) : ∀ (k : Nat) (n adr : Int) (N : Int → Int) (o5 : Option qV), n + k = 8 → 0 ≤ n → 0 ≤ adr ∧ adr ≤ 9 * n → qR (N (a + 1)) →
    Q 0 t (upr D 42 (sSv (D 37) (D 39) f a k n adr N)) → wp S 135 12 [some (qs 28), some (qi a), some (qi f), some (qi adr), some (qi n), o5] [] t (upr D 42 N) Q := by
  have h1 := hC.1
  have h2 := hC.2.1 f hf.1 hf.2
  intro k
  induction k with
  | zero =>
    intro n adr N o5 hk hn had hN hQ
    refine b135_12 (chk_i (by omega) (chk_i (by omega) (chk_i ?_ (ite_i (fun h => ?_) fun h => hQ))))
    · show qR (D 37 f); omega
    · have h : n < D 37 f := h
      exact absurd h (by omega)
  | succ k ih =>
    intro n adr N o5 hk hn had hN hQ
    refine b135_12 ?_
    simp only [up_eq, upr_u, upr_s, upr_b, Nat.reduceBEq, Int.add_zero]
    unfold sSv at hQ
    refine chk_i (by omega) (chk_i (by omega) (chk_i (by omega) (ite_i (fun h => ?_) fun h => ?_)))
    · rw [if_pos h] at hQ
      have h3 := hC.2.2.1 f n hf.1 hf.2 hn h
      refine chk_i (by omega) (chk_i (by omega) (ite_i (fun h4 => ?_) fun h4 => ?_))
      · rw [if_pos h4] at hQ
        refine chk_i (by omega) (chk_i (by omega) (chk_i (by omega) (ite_i (fun h5 => absurd h5 (by omega)) fun h5 => ?_)))
        exact ih (n + 1) _ N _ (by omega) (by omega) (by omega) hN hQ
      · rw [if_neg h4] at hQ
        refine chk_i (by omega) (chk_i (by omega) (ite_i (fun h5 => ?_) fun h5 => ?_))
        · refine chk_i (by omega) (chk_i (by omega) (chk_i (by omega) (ite_i (fun h6 => ?_) fun h6 => ?_)))
          · rw [if_pos ⟨h5, h6⟩] at hQ
            refine chk_i (by omega) (chk_i (by omega) (chk_i (by omega) (chk_i (by omega) ?_)))
            refine ih (n + 1) _ _ _ (by omega) (by omega) (by omega) ?_ hQ
            rw [ui_n (by omega)]; exact hN
          · rw [if_neg (fun q => h6 q.2)] at hQ
            exact ih (n + 1) _ N _ (by omega) (by omega) (by omega) hN hQ
        · rw [if_neg (fun q => h5 q.1)] at hQ
          exact ih (n + 1) _ N _ (by omega) (by omega) (by omega) hN hQ
    · rw [if_neg h] at hQ
      exact hQ
theorem c135 {a : Int} {N : Int → Int} (hC : CVd D) (hf : 0 ≤ N a ∧ N a < D 28 14) (ha : 14 ≤ a ∧ a + 7 < 78) (hN : qR (N (a + 1))) (k : Q 0 t (upr D 42 (sSv (D 37) (D 39) (N a) a 8 0 0 N))) :
    wp S 135 0 [some (qs 28), some (qi a), none, none, none, none] [] t (upr D 42 N) Q := by
  refine b135_0 (chk_i (by omega) ?_)
  simp only [upr_s]
  exact c135_12 hC hf ha 8 0 0 N none rfl (Int.le_refl _) (by omega) hN k
theorem c136_19 {f a : Int} {N : Int → Int} (hC : CVd D) (hf : 0 ≤ f ∧ f < D 28 14) (ha : 14 ≤ a ∧ a + 7 < 78) : ∀ (k : Nat) (j : Int), j + k = 8 → 0 ≤ j →
    Q 0 t (upr D 42 (sSv (D 37) (D 39) f a 8 0 0 (ui (sClr N a) a f))) → wp S 136 19 [some (qs 28), some (qi f), some (qi a), some (qi j)] [] t (upr D 42 (cpf N (fun _ => 0) a (a + j))) Q := by
  intro k
  induction k with
  | zero =>
    intro j hk hj hQ
    obtain rfl : j = 8 := by omega
    refine b136_19 (chk_i (by omega) (ite_i (fun h => absurd h (by omega)) fun h => chk_i (by omega) ?_))
    simp only [up_eq, upr_u, upr_s]
    have e1 : ui (cpf N (fun _ => 0) a (a + 8)) a f a = f := ui_s
    refine c135 hC (by rw [e1]; exact hf) ha (by rw [ui_n (by omega), cpf_y (by omega)]; omega) ?_
    rw [e1]
    exact hQ
  | succ k ih =>
    intro j hk hj hQ
    refine b136_19 (chk_i (by omega) (ite_i (fun h => chk_i (by omega) ?_) fun h => absurd h (by omega)))
    simp only [up_eq, upr_u, upr_s]
    rw [cpf_s (g := fun _ => (0 : Int)) (by omega), show a + j + 1 = a + (j + 1) by omega]
    exact ih (j + 1) (by omega) (by omega) hQ
theorem c136 {f : Int} (hC : CVd D) (hf : 0 ≤ f ∧ f < D 28 14) (h13 : 0 ≤ D 42 13 ∧ D 42 13 < 8) (k : Q 0 t (upr D 42 (sCall (D 37) (D 39) (D 42) f))) : wp S 136 0 [some (qs 28), some (qi f), none, none] [] t D Q := by
  refine b136_0 ?_
  simp only [up_eq]
  refine c134 ?_
  have e : sAt (upr D 42 (ui (D 42) 13 (D 42 13 + 1)) 42) 0 = 14 + 8 * D 42 13 := by
    rw [upr_s]; unfold sAt; rw [ui_s]; omega
  rw [e]
  have := c136_19 (S := S) (t := t) (Q := Q) (N := ui (D 42) 13 (D 42 13 + 1)) (a := 14 + 8 * D 42 13) hC hf (by omega) 8 0 rfl (Int.le_refl _) k
  rw [Int.add_zero, cpf_0] at this
  exact this
end RC
end
section
/-! ## rows stay rows -/
section RD
variable {S : (Nat → Int32) × Nat} {t : qT} {D : qD} {Q : Int → qT → qD → Prop}
theorem sSv_n {f a : Int} (hC : CVd D) (hf : 0 ≤ f ∧ f < D 28 14) : ∀ (k : Nat) (n adr : Int) (N : Int → Int) (i : Int), 0 ≤ n → ¬ (a + 2 ≤ i ∧ i ≤ a + 7) → sSv (D 37) (D 39) f a k n adr N i = N i := by
  intro k
  induction k with
  | zero => intro n adr N i _ _; rfl
  | succ k ih =>
    intro n adr N i hn hi
    unfold sSv
    split
    · rename_i h
      have h3 := hC.2.2.1 f n hf.1 hf.2 hn h
      split
      · exact ih _ _ _ _ (by omega) hi
      · split
        · rename_i h5
          rw [ih _ _ _ _ (by omega) hi, ui_n (by omega)]
        · exact ih _ _ _ _ (by omega) hi
    · rfl
theorem sSv_R {f a : Int} (hC : CVd D) (hf : 0 ≤ f ∧ f < D 28 14) : ∀ (k : Nat) (n adr : Int) (N : Int → Int), 0 ≤ n → (∀ j, 0 ≤ j → j < 110 → qR (N j)) → ∀ j, 0 ≤ j → j < 110 → qR (sSv (D 37) (D 39) f a k n adr N j) := by
  intro k
  induction k with
  | zero => intro n adr N _ h; exact h
  | succ k ih =>
    intro n adr N hn hN
    unfold sSv
    split
    · rename_i h
      have h3 := hC.2.2.1 f n hf.1 hf.2 hn h
      split
      · exact ih _ _ _ (by omega) hN
      · split
        · rename_i h5
          refine ih _ _ _ (by omega) fun j h1 h2 => ?_
          unfold ui
          split
          · exact hN _ (by omega) (by omega)
          · exact hN _ h1 h2
        · exact ih _ _ _ (by omega) hN
    · exact hN
theorem RVd.sv {f a L : Int} {N : Int → Int} {n adr : Int} {k : Nat} (hC : CVd D) (hf : 0 ≤ f ∧ f < D 28 14) (hn : 0 ≤ n) (ha : a = 14 + 8 * L) (hL : 0 ≤ L ∧ L < 8) (h : RVd (D 28 14) N) : RVd (D 28 14) (sSv (D 37) (D 39) f a k n adr N) := by
  obtain ⟨h1, h3, h4, h5, h6⟩ := h
  refine ⟨?_, fun l x y => ?_, fun k x y => ?_, ?_, sSv_R hC hf _ _ _ _ hn h6⟩
  · rw [sSv_n hC hf _ _ _ _ _ hn (by omega)]; exact h1
  · rw [sSv_n hC hf _ _ _ _ _ hn (by omega)] at y
    rw [sSv_n hC hf _ _ _ _ _ hn (by omega), sSv_n hC hf _ _ _ _ _ hn (by omega)]
    exact h3 l x y
  · rw [sSv_n hC hf _ _ _ _ _ hn (by omega)]; exact h4 k x y
  · rw [sSv_n hC hf _ _ _ _ _ hn (by omega)]; exact h5
theorem RVd.call {f : Int} {N : Int → Int} (hC : CVd D) (hf : 0 ≤ f ∧ f < D 28 14) (h13 : N 13 < 8) (h : RVd (D 28 14) N) : RVd (D 28 14) (sCall (D 37) (D 39) N f) := by
  unfold sCall
  have h13' := h.1
  refine RVd.sv (L := N 13) hC hf (Int.le_refl 0) rfl (by omega) ?_
  have h0 := hC.1
  obtain ⟨h1, h3, h4, h5, h6⟩ := h
  have e : ∀ i, ui (sClr (ui N 13 (N 13 + 1)) (14 + 8 * N 13)) (14 + 8 * N 13) f i = if i = 14 + 8 * N 13 then f else if 14 + 8 * N 13 ≤ i ∧ i < 14 + 8 * N 13 + 8 then 0 else if i = 13 then N 13 + 1 else N i := fun i => rfl
  refine ⟨?_, fun l x y => ?_, fun k x y => ?_, ?_, fun k x y => ?_⟩
  · rw [e, if_neg (by omega), if_neg (by omega), if_pos rfl]; omega
  · rw [e, if_neg (by omega), if_neg (by omega), if_pos rfl] at y
    rw [e, e]
    by_cases c : l = N 13
    · rw [if_pos (by omega), if_neg (by omega), if_pos (by omega)]; omega
    · rw [if_neg (by omega), if_neg (by omega), if_neg (by omega), if_neg (by omega), if_neg (by omega), if_neg (by omega)]
      exact h3 l x (by omega)
  · rw [e, if_neg (by omega), if_neg (by omega), if_neg (by omega)]; exact h4 k x y
  · rw [e, if_neg (by omega), if_neg (by omega), if_neg (by omega)]; exact h5
  · rw [e]
    have := h6 k x y
    (repeat' split) <;> omega
theorem RVd.ui1 {N : Int → Int} {nf x : Int} (h13 : 1 ≤ N 13) (hx : 0 ≤ x ∧ x ≤ 9) (h : RVd nf N) : RVd nf (ui N (sAt N 0 + 1) x) := by
  have ha := sAt_r h (Int.le_refl 0) (by omega)
  have hs : sAt N 0 = 14 + 8 * (N 13 - 1) := by unfold sAt; omega
  obtain ⟨h1, h3, h4, h5, h6⟩ := h
  refine ⟨?_, fun l x y => ?_, fun k x y => ?_, ?_, fun k x y => ?_⟩
  · rw [ui_n (by omega)]; exact h1
  · rw [ui_n (by omega)] at y
    rw [ui_n (by omega), ui_ap]
    have := h3 l x y
    split <;> omega
  · rw [ui_n (by omega)]; exact h4 k x y
  · rw [ui_n (by omega)]; exact h5
  · rw [ui_ap]
    have := h6 k x y
    split <;> omega
theorem RVd.step {N : Int → Int} (hC : CVd D) (h13 : 1 ≤ N 13) (h9 : N (sAt N 0 + 1) < 9) (h : RVd (D 28 14) N) : RVd (D 28 14) (sStep (D 37) (D 39) N) := by
  have ha := sAt_r h (Int.le_refl 0) (by omega)
  have h1 := h.1
  exact RVd.sv (L := N 13 - 1) hC ha.2.1 (Int.le_refl 0) (by unfold sAt; omega) (by omega) (RVd.ui1 h13 (by omega) h)
theorem sStep_13 {N : Int → Int} (hC : CVd D) (h13 : 1 ≤ N 13) (h : RVd (D 28 14) N) : sStep (D 37) (D 39) N 13 = N 13 ∧ sAt (sStep (D 37) (D 39) N) 0 = sAt N 0 ∧ sStep (D 37) (D 39) N (sAt N 0) = N (sAt N 0) ∧ sStep (D 37) (D 39) N (sAt N 0 + 1) = N (sAt N 0 + 1) + 1 := by
  have ha := sAt_r h (Int.le_refl 0) (by omega)
  have e1 : sStep (D 37) (D 39) N 13 = N 13 := by
    unfold sStep
    rw [sSv_n hC ha.2.1 _ _ _ _ _ (Int.le_refl 0) (by omega), ui_n (by omega)]
  refine ⟨e1, by unfold sAt; rw [e1], ?_, ?_⟩
  · unfold sStep
    rw [sSv_n hC ha.2.1 _ _ _ _ _ (Int.le_refl 0) (by omega), ui_n (by omega)]
  · unfold sStep
    rw [sSv_n hC ha.2.1 _ _ _ _ _ (Int.le_refl 0) (by omega), ui_s]
theorem RVd.back {N : Int → Int} (hC : CVd D) (h13 : 1 ≤ N 13) (h : RVd (D 28 14) N) : RVd (D 28 14) (sBack (D 34) N) := by
  have ha := sAt_r h (Int.le_refl 0) (by omega)
  have h0 := hC.1
  obtain ⟨h1, h3, h4, h5, h6⟩ := h
  unfold sBack
  refine ⟨?_, fun l x y => ?_, fun k x y => ?_, ?_, fun k x y => ?_⟩
  · rw [ui_s]; omega
  · rw [ui_s] at y
    rw [ui_n (by omega), cpf_n (by omega), ui_n (by omega), cpf_n (by omega)]
    exact h3 l x (by omega)
  · rw [ui_n (by omega), cpf_n (by omega)]; exact h4 k x y
  · rw [ui_n (by omega), cpf_n (by omega)]; exact h5
  · rw [ui_ap]
    have h7 := h6 k x y
    split
    · omega
    · by_cases c : 9 ≤ k ∧ k < 13
      · rw [cpf_y c]
        unfold sReg
        split
        · exact h7
        · have := hC.2.2.2.1 (40 * N (sAt N 0) + 4 * N (sAt N 0 + 1) + (k - 9)) (by omega) (by omega)
          unfold sCell at *
          exact h6 _ (by omega) (by omega)
      · rw [cpf_n c]; exact h7
theorem sFin_r {nf ty bef : Int} {pd : Int → Int} (hnf : nf ≤ 3) (hb : bef ≤ 3) : ∀ (k : Nat) (p : Int) (N : Int → Int), 0 ≤ p → RVd nf N → 1 ≤ N 13 → N 78 + k ≤ 24 → RVd nf (sFin pd ty bef k p N) ∧ (∀ i, i < 78 → sFin pd ty bef k p N i = N i) ∧ N 78 ≤ sFin pd ty bef k p N 78 ∧ sFin pd ty bef k p N 78 ≤ N 78 + k := by
  intro k
  induction k with
  | zero => intro p N _ h _ _; exact ⟨h, fun _ _ => rfl, Int.le_refl _, by show N 78 ≤ N 78 + (0 : Nat); omega⟩
  | succ k ih =>
    intro p N hp h h13 h78
    have ha := sAt_r h (Int.le_refl 0) (by omega)
    have h4 := h.2.2.2.1
    unfold sFin
    split
    · rename_i hlt
      split
      · have := ih (p + 1) (ui (ui N (79 + N 78) (10 * N (sAt N 0) + p)) 78 (N 78 + 1)) (by omega) (h.fin (by omega) (by omega)) (by rw [ui_n (by omega), ui_n (by omega)]; exact h13) (by rw [ui_s]; omega)
        rw [ui_s] at this
        refine ⟨this.1, fun i hi => ?_, by omega, by omega⟩
        rw [this.2.1 i hi, ui_n (by omega), ui_n (by omega)]
      · have := ih (p + 1) N (by omega) h h13 (by omega)
        exact ⟨this.1, this.2.1, by omega, by omega⟩
    · exact ⟨h, fun _ _ => rfl, Int.le_refl _, by omega⟩
theorem c137_8 {by_ a : Int} (hC : CVd D) (hby : by_ ≤ 9) : ∀ (k : Nat) (n : Int) (N : Int → Int), n + k = by_ → 0 ≤ n → RVd (D 28 14) N → 1 ≤ N 13 → a = sAt N 0 → N (a + 1) + k ≤ 9 →
    Q 0 t (upr D 42 (sGo (D 37) (D 39) k N)) → wp S 137 8 [some (qs 28), some (qi by_), some (qi a), some (qi n)] [] t (upr D 42 N) Q := by
  intro k
  induction k with
  | zero =>
    intro n N hk hn hV h13 hae h9 hQ
    refine b137_8 (chk_i (by omega) (chk_i (by omega) (ite_i (fun h => absurd h (by omega)) fun h => hQ)))
  | succ k ih =>
    intro n N hk hn hV h13 hae h9 hQ
    have ha := sAt_r hV (Int.le_refl 0) (by omega)
    have hs := sStep_13 hC h13 hV
    subst hae
    refine b137_8 (chk_i (by omega) (chk_i (by omega) (ite_i (fun h => chk_i (by omega) (chk_i (by omega) ?_)) fun h => absurd h (by omega))))
    simp only [up_eq, upr_u, upr_s]
    have e1 : ui N (sAt N 0 + 1) (N (sAt N 0 + 1) + 1) (sAt N 0) = N (sAt N 0) := ui_n (by omega)
    refine c135 hC (by rw [e1]; exact ha.2.1) (by omega) (by rw [ui_s]; omega) ?_
    rw [e1]
    refine ih (n + 1) _ (by omega) (by omega) (RVd.step hC h13 (by omega) hV) ?_ ?_ ?_ hQ
    · show 1 ≤ sStep (D 37) (D 39) N 13
      rw [hs.1]; exact h13
    · exact hs.2.1.symm
    · show sStep (D 37) (D 39) N (sAt N 0 + 1) + k ≤ 9
      rw [hs.2.2.2]; omega
theorem c137 {by_ : Int} (hC : CVd D) (hby : 0 ≤ by_ ∧ by_ ≤ 9) (hV : RVd (D 28 14) (D 42)) (h13 : 1 ≤ D 42 13) (h9 : D 42 (sAt (D 42) 0 + 1) + by_ ≤ 9) (k : Q 0 t (upr D 42 (sGo (D 37) (D 39) by_.toNat (D 42)))) :
    wp S 137 0 [some (qs 28), some (qi by_), none, none] [] t D Q := by
  refine b137_0 (c134 ?_)
  have := c137_8 (S := S) (t := t) (Q := Q) (a := sAt (D 42) 0) hC hby.2 by_.toNat 0 (D 42) (by omega) (Int.le_refl _) hV h13 rfl (by omega) k
  rwa [upr_id] at this
theorem sGo_r (hC : CVd D) : ∀ (k : Nat) (N : Int → Int), RVd (D 28 14) N → 1 ≤ N 13 → N (sAt N 0 + 1) + k ≤ 9 → RVd (D 28 14) (sGo (D 37) (D 39) k N) ∧ sGo (D 37) (D 39) k N 13 = N 13 ∧ sGo (D 37) (D 39) k N (sAt N 0 + 1) = N (sAt N 0 + 1) + k := by
  intro k
  induction k with
  | zero => intro N h _ _; exact ⟨h, rfl, by show N _ = N _ + ((0 : Nat) : Int); omega⟩
  | succ k ih =>
    intro N hV h13 h9
    have hs := sStep_13 hC h13 hV
    have := ih (sStep (D 37) (D 39) N) (RVd.step hC h13 (by omega) hV) (by rw [hs.1]; exact h13) (by rw [hs.2.1, hs.2.2.2]; omega)
    refine ⟨this.1, this.2.1.trans hs.1, ?_⟩
    have h3 := this.2.2
    rw [hs.2.1, hs.2.2.2] at h3
    show sGo (D 37) (D 39) k (sStep (D 37) (D 39) N) _ = _
    rw [h3]; omega
theorem c147 {ty w : Int} (ht : 0 ≤ ty ∧ ty ≤ 4) (hw : 0 ≤ w ∧ w ≤ 2) (hC : CVd D) (hV : RVd (D 28 14) (D 42))
    (k : Q (if (sCat (D 38) (D 40) (D 42) ty).1 = -1 then -1 else if w = 0 then (sCat (D 38) (D 40) (D 42) ty).1 else if w = 1 then (sCat (D 38) (D 40) (D 42) ty).2.1 else (sCat (D 38) (D 40) (D 42) ty).2.2) t (upr D 28 (s28 (D 28) (sCat (D 38) (D 40) (D 42) ty).1 (sCat (D 38) (D 40) (D 42) ty).2.1 (sCat (D 38) (D 40) (D 42) ty).2.2))) :
    wp S 147 0 [some (qs 28), some (qi ty), some (qi w)] [] t D Q := by
  have hr := sCat_r (D 38) (D 40) (D 42) ty
  have h13 := hV.1
  refine b147_0 (c146 ht hC hV ?_)
  simp only [upr_s]
  show chk (qR (sCat (D 38) (D 40) (D 42) ty).1) (if (sCat (D 38) (D 40) (D 42) ty).1 = -1 then _ else chk (qR w) (if w = 0 then Q (sCat (D 38) (D 40) (D 42) ty).1 t _ else chk (qR w) (if w = 1 then Q (sCat (D 38) (D 40) (D 42) ty).2.1 t _ else Q (sCat (D 38) (D 40) (D 42) ty).2.2 t _)))
  refine chk_i (by omega) (ite_i (fun h => ?_) fun h => chk_i (by omega) (ite_i (fun h2 => ?_) fun h2 => chk_i (by omega) (ite_i (fun h3 => ?_) fun h3 => ?_)))
  · rwa [if_pos h] at k
  · rwa [if_neg h, if_pos h2] at k
  · rwa [if_neg h, if_neg h2, if_pos h3] at k
  · rwa [if_neg h, if_neg h2, if_neg h3] at k
end RD
end
section
/-! ## the reference's methods: thrown; kept and taken back -/
section RE
variable {S : (Nat → Int32) × Nat} {t : qT} {D : qD} {Q : Int → qT → qD → Prop}
theorem sAt_d {N M : Int → Int} {a b : Int} (h : M 13 - a = N 13 - b) : sAt M a = sAt N b := by unfold sAt; omega
/-- what one frame's going does -/
theorem sUn1_r {ty : Int} {N : Int → Int} (hC : CVd D) (h : RVd (D 28 14) N) (h13 : 2 ≤ N 13) (h78 : N 78 ≤ 21) :
    RVd (D 28 14) (sFin (D 40) ty (D 38 (N (sAt N 0))) 3 0 N) ∧ RVd (D 28 14) (sBack (D 34) (sFin (D 40) ty (D 38 (N (sAt N 0))) 3 0 N)) ∧
    sBack (D 34) (sFin (D 40) ty (D 38 (N (sAt N 0))) 3 0 N) 13 = N 13 - 1 ∧
    (∀ i, 14 ≤ i → i < 78 → sBack (D 34) (sFin (D 40) ty (D 38 (N (sAt N 0))) 3 0 N) i = N i) ∧
    sBack (D 34) (sFin (D 40) ty (D 38 (N (sAt N 0))) 3 0 N) 78 ≤ N 78 + 3 ∧ N 78 ≤ sBack (D 34) (sFin (D 40) ty (D 38 (N (sAt N 0))) 3 0 N) 78 ∧
    sFin (D 40) ty (D 38 (N (sAt N 0))) 3 0 N 13 = N 13 := by
  have ha := sAt_r h (Int.le_refl 0) (by omega)
  have h1 := hC.1
  have h2 := hC.2.1 _ ha.2.1.1 ha.2.1.2
  have hf := sFin_r (ty := ty) (bef := D 38 (N (sAt N 0))) (pd := D 40) h1.2 h2.2.2.2 3 0 N (Int.le_refl _) h (by omega) (by omega)
  have e13 := hf.2.1 13 (by omega)
  refine ⟨hf.1, RVd.back hC (by omega) hf.1, ?_, fun i h3 h4 => ?_, ?_, ?_, e13⟩
  · unfold sBack; rw [ui_s, e13]
  · unfold sBack; rw [ui_n (by omega), cpf_n (by omega)]; exact hf.2.1 i h4
  · unfold sBack; rw [ui_n (by omega), cpf_n (by omega)]; exact hf.2.2.2
  · unfold sBack; rw [ui_n (by omega), cpf_n (by omega)]; exact hf.2.2.1
theorem sEnd_r {ty cp : Int} {N : Int → Int} (hC : CVd D) (h : RVd (D 28 14) N) (h13 : 1 ≤ N 13) (h78 : N 78 ≤ 21) (hcp : 0 ≤ cp ∧ cp < D 38 (N (sAt N 0))) :
    RVd (D 28 14) (sEnd (D 40) ty cp N) ∧ sEnd (D 40) ty cp N 13 = N 13 := by
  have ha := sAt_r h (Int.le_refl 0) (by omega)
  have h1 := hC.1
  have h2 := hC.2.1 _ ha.2.1.1 ha.2.1.2
  have hf := sFin_r (ty := ty) (bef := cp) (pd := D 40) h1.2 (by omega) 3 0 N (Int.le_refl _) h (by omega) (by omega)
  have e13 := hf.2.1 13 (by omega)
  have es : sAt (sFin (D 40) ty cp 3 0 N) 0 = sAt N 0 := by unfold sAt; rw [e13]
  have hp := hC.2.2.2.2.2 _ cp ha.2.1.1 ha.2.1.2 hcp.1 hcp.2
  unfold sEnd
  refine ⟨?_, ?_⟩
  · rw [← es]
    refine RVd.ui1 (by omega) ?_ hf.1
    rw [es]; omega
  · rw [ui_n (by omega)]; exact e13
theorem c150_15 {ty c cp : Int} (hC : CVd D) (ht : 0 ≤ ty ∧ ty ≤ 4) (hc : 0 ≤ c ∧ c ≤ 7) (h28 : D 28 28 = c) (h29 : D 28 29 = cp) (hcp : 0 ≤ cp) : ∀ (k : Nat) (n : Int) (N : Int → Int), n + k = c → 0 ≤ n → RVd (D 28 14) N → k < N 13 → N 78 ≤ 3 * n → cp < D 38 (N (sAt N k)) →
    Q 0 t (upr D 42 (sEnd (D 40) ty cp (sUnw (D 34) (D 38) (D 40) ty k N))) → wp S 150 15 [some (qs 28), some (qi ty), some (qi c), some (qi n)] [] t (upr D 42 N) Q := by
  intro k
  induction k with
  | zero =>
    intro n N hk hn hV h13 h78 hcp2 hQ
    have ha := sAt_r hV (Int.le_refl 0) (by omega)
    have h1 := hC.1
    have h2 := hC.2.1 _ ha.2.1.1 ha.2.1.2
    have hcp2 : cp < D 38 (N (sAt N 0)) := hcp2
    have hf := sFin_r (ty := ty) (bef := cp) (pd := D 40) h1.2 (by omega) 3 0 N (Int.le_refl _) hV (by omega) (by omega)
    have e13 := hf.2.1 13 (by omega)
    have es : sAt (sFin (D 40) ty cp 3 0 N) 0 = sAt N 0 := by unfold sAt; rw [e13]
    have hp := hC.2.2.2.2.2 _ cp ha.2.1.1 ha.2.1.2 hcp hcp2
    refine b150_15 (chk_i (by omega) (chk_i (by omega) (ite_i (fun h => absurd h (by omega)) fun h => ?_)))
    simp only [upr_b, Nat.reduceBEq, h29]
    refine c149 hC ht hcp hV (by show 1 ≤ N 13; omega) (by show N 78 ≤ 21; omega) (by show cp ≤ D 38 (N (sAt N 0)); omega) ?_
    simp only [upr_b, Nat.reduceBEq, upr_u, upr_s]
    refine c134 ?_
    simp only [upr_b, Nat.reduceBEq, upr_u, upr_s, up_eq, es, h29]
    rw [hf.2.1 (sAt N 0) (by omega)]
    exact chk_i (by omega) (chk_i (by omega) (chk_i (by omega) hQ))
  | succ k ih =>
    intro n N hk hn hV h13 h78 hcp2 hQ
    have ha := sAt_r hV (Int.le_refl 0) (by omega)
    have h1 := hC.1
    have h2 := hC.2.1 _ ha.2.1.1 ha.2.1.2
    have hu := sUn1_r (ty := ty) hC hV (by omega) (by omega)
    refine b150_15 (chk_i (by omega) (chk_i (by omega) (ite_i (fun h => c134 ?_) fun h => absurd h (by omega))))
    simp only [upr_b, Nat.reduceBEq, upr_s]
    refine chk_i (by omega) (chk_i (by omega) (c149 hC ht h2.2.2.1 hV (by show 1 ≤ N 13; omega) (by show N 78 ≤ 21; omega) (Int.le_refl _) ?_))
    simp only [upr_b, Nat.reduceBEq, upr_u, upr_s]
    refine c138 hC hu.1 (by show 1 ≤ sFin (D 40) ty (D 38 (N (sAt N 0))) 3 0 N 13; rw [hu.2.2.2.2.2.2]; omega) ?_
    simp only [upr_b, Nat.reduceBEq, upr_u, upr_s]
    refine ih (n + 1) _ (by omega) (by omega) hu.2.1 ?_ ?_ ?_ hQ
    · rw [hu.2.2.1]; omega
    · have := hu.2.2.2.2.1; omega
    · have e : sAt (sBack (D 34) (sFin (D 40) ty (D 38 (N (sAt N 0))) 3 0 N)) k = sAt N ((k + 1 : Nat) : Int) := by
        refine sAt_d ?_; rw [hu.2.2.1]; omega
      have hb : 14 ≤ sAt N ((k + 1 : Nat) : Int) ∧ sAt N ((k + 1 : Nat) : Int) < 78 := by
        have := hV.1
        unfold sAt; omega
      rw [e, hu.2.2.2.1 _ hb.1 hb.2]
      exact hcp2
theorem c150 {ty c cp : Int} (hC : CVd D) (ht : 0 ≤ ty ∧ ty ≤ 4) (h28 : D 28 28 = c) (h29 : D 28 29 = cp) (hV : RVd (D 28 14) (D 42)) (hc : 0 ≤ c ∧ c < D 42 13) (hcp : 0 ≤ cp ∧ cp < D 38 (D 42 (sAt (D 42) c)))
    (k : Q 0 t (upr D 42 (sRaise (D 34) (D 38) (D 40) (D 42) ty c cp))) : wp S 150 0 [some (qs 28), some (qi ty), none, none] [] t D Q := by
  refine b150_0 ?_
  rw [up_eq, h28]
  have h13 := hV.1
  have e : sAt (ui (D 42) 78 0) c = sAt (D 42) c := sAt_ui (by decide)
  have hb : 14 ≤ sAt (D 42) c ∧ sAt (D 42) c < 78 := by unfold sAt; omega
  refine c150_15 (c := c) (cp := cp) hC ht (by omega) h28 h29 hcp.1 c.toNat 0 _ (by omega) (Int.le_refl _) ?_ ?_ ?_ ?_ k
  · obtain ⟨h1, h3, h4, h5, h6⟩ := hV
    refine ⟨?_, fun l x y => ?_, fun k x y => ?_, ?_, fun k x y => ?_⟩
    · rw [ui_n (by omega)]; exact h1
    · rw [ui_n (by omega)] at y
      rw [ui_n (by omega), ui_n (by omega)]; exact h3 l x y
    · rw [ui_n (by omega)]; exact h4 k x y
    · rw [ui_s]; omega
    · have := h6 k x y
      rw [ui_ap]; split <;> omega
  · rw [ui_n (by omega)]; omega
  · rw [ui_s]; omega
  · rw [show ((c.toNat : Nat) : Int) = c by omega, e, ui_n (by omega)]; exact hcp.2
theorem RVd.u78 {nf : Int} {N : Int → Int} (hV : RVd nf N) : RVd nf (ui N 78 0) := by
  obtain ⟨h1, h3, h4, h5, h6⟩ := hV
  refine ⟨?_, fun l x y => ?_, fun k x y => ?_, ?_, fun k x y => ?_⟩
  · rw [ui_n (by omega)]; exact h1
  · rw [ui_n (by omega)] at y
    rw [ui_n (by omega), ui_n (by omega)]; exact h3 l x y
  · rw [ui_n (by omega)]; exact h4 k x y
  · rw [ui_s]; omega
  · have := h6 k x y
    rw [ui_ap]; split <;> omega
theorem sUnw_r {ty : Int} (hC : CVd D) : ∀ (k : Nat) (N : Int → Int), RVd (D 28 14) N → k < N 13 → N 78 + 3 * k ≤ 24 →
    RVd (D 28 14) (sUnw (D 34) (D 38) (D 40) ty k N) ∧ sUnw (D 34) (D 38) (D 40) ty k N 13 = N 13 - k ∧ (∀ i, 14 ≤ i → i < 78 → sUnw (D 34) (D 38) (D 40) ty k N i = N i) ∧ sUnw (D 34) (D 38) (D 40) ty k N 78 ≤ N 78 + 3 * k := by
  intro k
  induction k with
  | zero => intro N h _ _; exact ⟨h, by show N 13 = N 13 - ((0 : Nat) : Int); omega, fun _ _ _ => rfl, by show N 78 ≤ _; omega⟩
  | succ k ih =>
    intro N hV h13 h78
    have hu := sUn1_r (ty := ty) hC hV (by omega) (by omega)
    have := ih _ hu.2.1 (by rw [hu.2.2.1]; omega) (by have := hu.2.2.2.2.1; omega)
    have h5 := hu.2.2.2.2.1
    have h3 := hu.2.2.1
    refine ⟨this.1, ?_, fun i h1 h2 => (this.2.2.1 i h1 h2).trans (hu.2.2.2.1 i h1 h2), ?_⟩
    · show sUnw (D 34) (D 38) (D 40) ty k _ 13 = _
      rw [this.2.1]; omega
    · have := this.2.2.2
      show sUnw (D 34) (D 38) (D 40) ty k _ 78 ≤ _
      omega
theorem sRaise_r {ty c cp : Int} {N : Int → Int} (hC : CVd D) (hV : RVd (D 28 14) N) (hc : 0 ≤ c ∧ c < N 13) (hcp : 0 ≤ cp ∧ cp < D 38 (N (sAt N c))) :
    RVd (D 28 14) (sRaise (D 34) (D 38) (D 40) N ty c cp) ∧ sRaise (D 34) (D 38) (D 40) N ty c cp 13 = N 13 - c := by
  have h13 := hV.1
  have hb : 14 ≤ sAt N c ∧ sAt N c < 78 := by unfold sAt; omega
  have hu := sUnw_r (ty := ty) hC c.toNat (ui N 78 0) hV.u78 (by rw [ui_n (by omega)]; omega) (by rw [ui_s]; omega)
  rw [ui_n (by omega), ui_s] at hu
  have es : sAt (sUnw (D 34) (D 38) (D 40) ty c.toNat (ui N 78 0)) 0 = sAt N c := by unfold sAt; rw [hu.2.1]; omega
  have := sEnd_r (ty := ty) (cp := cp) hC hu.1 (by omega) (by omega) (by rw [es, hu.2.2.1 _ hb.1 hb.2, ui_n (by omega)]; exact hcp)
  refine ⟨this.1, ?_⟩
  show sEnd _ _ _ _ 13 = _
  rw [this.2, hu.2.1]; omega
/-! ### kept -/
def sPush (U N : Int → Int) (m : Int) : Int → Int := if m = 30 then cpf (cpf U (fun i => U (i + 110)) 0 3190) (fun i => N (i - 3190)) 3190 3300 else cpf U (fun i => N (i - 110 * m)) (110 * m) (110 * m + 110)
def sPushN (m : Int) : Int := if m = 30 then 30 else m + 1
def sKeep (D : qD) : qD := upr (upr D 43 (sPush (D 43) (D 42) (D 28 27))) 28 (ui (D 28) 27 (sPushN (D 28 27)))
theorem c131_47 {U R : Int → Int} {m : Int} (hm : 0 ≤ m ∧ m ≤ 29) (hR : R 27 = m) : ∀ (k : Nat) (j : Int), j + k = 110 → 0 ≤ j →
    Q 0 t (upr (upr D 43 (cpf U (fun i => D 42 (i - 110 * m)) (110 * m) (110 * m + 110))) 28 (ui R 27 (m + 1))) →
    wp S 131 47 [some (qs 28), some (qi j)] [] t (upr (upr D 43 (cpf U (fun i => D 42 (i - 110 * m)) (110 * m) (110 * m + j))) 28 R) Q := by
  intro k
  induction k with
  | zero =>
    intro j hk hj hQ
    obtain rfl : j = 110 := by omega
    refine b131_47 (chk_i (by omega) (ite_i (fun h => absurd h (by omega)) fun h => ?_))
    simp only [up_eq, upr_u, upr_s, hR]
    exact hQ
  | succ k ih =>
    intro j hk hj hQ
    refine b131_47 (chk_i (by omega) (ite_i (fun h => ?_) fun h => absurd h (by omega)))
    simp only [up_eq, upr_u, upr_s, upr_b, Nat.reduceBEq, hR]
    refine chk_i (by omega) (chk_i (by omega) ?_)
    have e : D 42 j = (fun i => D 42 (i - 110 * m)) (110 * m + j) := by show D 42 j = D 42 _; congr 1; omega
    rw [e, upr_c (a := 28) (b := 43) (by decide), upr_u, cpf_s (g := fun i => D 42 (i - 110 * m)) (by omega), show 110 * m + j + 1 = 110 * m + (j + 1) by omega]
    exact ih (j + 1) (by omega) (by omega) hQ
theorem c131_11 : ∀ (k : Nat) (j : Int), j + k = 3190 → 0 ≤ j →
    (wp S 131 47 [some (qs 28), some (qi 0)] [] t (upr (upr D 43 (cpf (D 43) (fun i => D 43 (i + 110)) 0 3190)) 28 (ui (D 28) 27 29)) Q) →
    wp S 131 11 [some (qs 28), some (qi j)] [] t (upr D 43 (cpf (D 43) (fun i => D 43 (i + 110)) 0 j)) Q := by
  intro k
  induction k with
  | zero =>
    intro j hk hj hQ
    obtain rfl : j = 3190 := by omega
    refine b131_11 (chk_i (by omega) (ite_i (fun h => absurd h (by omega)) fun h => ?_))
    simp only [up_eq, upr_b, Nat.reduceBEq]
    exact hQ
  | succ k ih =>
    intro j hk hj hQ
    refine b131_11 (chk_i (by omega) (ite_i (fun h => chk_i (by omega) (chk_i (by omega) ?_)) fun h => absurd h (by omega)))
    simp only [up_eq, upr_u, upr_s]
    rw [cpf_n (i := j + 110) (by omega), cpf_s (g := fun i => D 43 (i + 110)) (by omega)]
    exact ih (j + 1) (by omega) (by omega) hQ
theorem c131 (hm : 0 ≤ D 28 27 ∧ D 28 27 ≤ 30) (k : Q 0 t (sKeep D)) : wp S 131 0 [some (qs 28), none] [] t D Q := by
  unfold sKeep sPush sPushN at k
  refine b131_0 (chk_i (by omega) (ite_i (fun h => ?_) fun h => ?_))
  · rw [if_pos h, if_pos h] at k
    have h1 := c131_11 (S := S) (t := t) (D := D) (Q := Q) 3190 0 rfl (Int.le_refl _) ?_
    · rw [cpf_0, upr_id] at h1
      exact h1
    · have h2 := c131_47 (S := S) (t := t) (D := D) (Q := Q) (U := cpf (D 43) (fun i => D 43 (i + 110)) 0 3190) (R := ui (D 28) 27 29) (m := 29) (by omega) ui_s 110 0 rfl (Int.le_refl _) ?_
      · rw [show (110 * 29 + 0 : Int) = 110 * 29 from rfl, cpf_0] at h2
        exact h2
      · rw [ui_u]
        exact k
  · rw [if_neg h, if_neg h] at k
    have h2 := c131_47 (S := S) (t := t) (D := D) (Q := Q) (U := D 43) (R := D 28) (m := D 28 27) (by omega) rfl 110 0 rfl (Int.le_refl _) k
    rw [Int.add_zero, cpf_0, upr_id, upr_id] at h2
    exact h2
def sPop (D : qD) : qD := upr (upr D 28 (ui (D 28) 27 (D 28 27 - 1))) 42 (cpf (D 42) (fun i => D 43 (110 * (D 28 27 - 1) + i)) 0 110)
theorem c132_22 {m : Int} (hm : 0 ≤ m ∧ m ≤ 29) (h27 : D 28 27 = m) : ∀ (k : Nat) (j : Int), j + k = 110 → 0 ≤ j →
    Q m t (upr D 42 (cpf (D 42) (fun i => D 43 (110 * m + i)) 0 110)) →
    wp S 132 22 [some (qs 28), some (qi j)] [] t (upr D 42 (cpf (D 42) (fun i => D 43 (110 * m + i)) 0 j)) Q := by
  intro k
  induction k with
  | zero =>
    intro j hk hj hQ
    obtain rfl : j = 110 := by omega
    refine b132_22 (chk_i (by omega) (ite_i (fun h => absurd h (by omega)) fun h => ?_))
    simp only [upr_b, Nat.reduceBEq, h27]
    exact hQ
  | succ k ih =>
    intro j hk hj hQ
    refine b132_22 (chk_i (by omega) (ite_i (fun h => ?_) fun h => absurd h (by omega)))
    simp only [up_eq, upr_u, upr_s, upr_b, Nat.reduceBEq, h27]
    refine chk_i (by omega) (chk_i (by omega) ?_)
    rw [cpf_s (g := fun i => D 43 (110 * m + i)) (by omega)]
    exact ih (j + 1) (by omega) (by omega) hQ
theorem c132 (hm : 0 ≤ D 28 27 ∧ D 28 27 ≤ 30) (k : if D 28 27 = 0 then Q (-103) t D else Q (D 28 27 - 1) t (sPop D)) : wp S 132 0 [some (qs 28), none] [] t D Q := by
  refine b132_0 (chk_i (by omega) (ite_i (fun h => ?_) fun h => ?_))
  · rwa [if_pos h] at k
  · rw [if_neg h] at k
    rw [up_eq]
    have := c132_22 (S := S) (t := t) (D := upr D 28 (ui (D 28) 27 (D 28 27 - 1))) (Q := Q) (m := D 28 27 - 1) (by omega) (by rw [upr_s, ui_s]) 110 0 rfl (Int.le_refl _) ?_
    · rw [cpf_0, upr_id] at this
      exact this
    · exact k
end RE
end
section
/-! ## the class: what a functions' object and a machine of it hold, against the reference's numbers -/
def im (t : qT) (a : Nat) : Prop := a < t.2.2.1 ∧ (15 ≤ a ∧ a < 28 ∨ 49 ≤ a)
def CO (t : qT) (k : Nat) : Prop :=
  ((t.1 k).1 = 0 ∧ im t k) ∧
  ((t.1 (t.2.1 k 1)).1 = 10 ∧ (t.1 (t.2.1 k 1)).2 = 180 ∧ im t (t.2.1 k 1)) ∧
  ((t.1 (t.2.1 k 2)).1 = 10 ∧ (t.1 (t.2.1 k 2)).2 = 72 ∧ im t (t.2.1 k 2)) ∧
  ((t.1 (t.2.1 k 3)).1 = 10 ∧ (t.1 (t.2.1 k 3)).2 = 3 ∧ im t (t.2.1 k 3)) ∧
  ((t.1 (t.2.1 k 4)).1 = 10 ∧ (t.1 (t.2.1 k 4)).2 = 45 ∧ im t (t.2.1 k 4)) ∧
  ((t.1 (t.2.1 k 5)).1 = 10 ∧ (t.1 (t.2.1 k 5)).2 = 3 ∧ im t (t.2.1 k 5))
/-- of the first n ops: how many are saves; how far on they are -/
def svN (op : Int → Int) (f : Int) : Nat → Int
  | 0 => 0
  | n + 1 => svN op f n + if op (24 * f + 3 * n) = 115 then 1 else 0
def adN (op : Int → Int) (f : Int) : Nat → Int
  | 0 => 0
  | n + 1 => adN op f n + if op (24 * f + 3 * n) = 43 then op (24 * f + 3 * n + 1) else 0
def CR (t : qT) (D : qD) (k : Nat) (G : qD) : Prop :=
  D k 0 = G 28 14 ∧
  (∀ f a w, 0 ≤ f → f < G 28 14 → 0 ≤ a → a < 10 → 0 ≤ w → w < 4 → D (t.2.1 k 1) ((f * 10 + a) * 6 + w) = G 34 (40 * f + 4 * a + w)) ∧
  (∀ f a, 0 ≤ f → f < G 28 14 → 0 ≤ a → a < 10 → D (t.2.1 k 1) ((f * 10 + a) * 6 + 4) = G 35 (10 * f + a) ∧ D (t.2.1 k 1) ((f * 10 + a) * 6 + 5) = G 36 (10 * f + a)) ∧
  (∀ f, 0 ≤ f → f < G 28 14 → D (t.2.1 k 5) f = G 38 f) ∧
  (∀ f p w, 0 ≤ f → f < G 28 14 → 0 ≤ p → p < G 38 f → 0 ≤ w → w < 5 → D (t.2.1 k 4) ((f * 3 + p) * 5 + w) = G 40 (15 * f + 5 * p + w)) ∧
  (∀ f, 0 ≤ f → f < G 28 14 → D (t.2.1 k 3) f = svN (G 39) f (G 37 f).toNat) ∧
  (∀ f (n : Nat), 0 ≤ f → f < G 28 14 → n < G 37 f → G 39 (24 * f + 3 * n) = 115 →
    D (t.2.1 k 2) ((f * 8 + svN (G 39) f n) * 3) = adN (G 39) f n ∧ D (t.2.1 k 2) ((f * 8 + svN (G 39) f n) * 3 + 1) = G 39 (24 * f + 3 * n + 1) ∧ D (t.2.1 k 2) ((f * 8 + svN (G 39) f n) * 3 + 2) = G 39 (24 * f + 3 * n + 2))
def MO (t : qT) (a : Nat) : Prop :=
  ((t.1 a).1 = 3 ∧ im t a) ∧ CO t (t.2.1 a 0) ∧
  ((t.1 (t.2.1 a 1)).1 = 10 ∧ (t.1 (t.2.1 a 1)).2 = 9 ∧ im t (t.2.1 a 1)) ∧
  ((t.1 (t.2.1 a 2)).1 = 10 ∧ (t.1 (t.2.1 a 2)).2 = 4 ∧ im t (t.2.1 a 2)) ∧
  ((t.1 (t.2.1 a 3)).1 = 10 ∧ (t.1 (t.2.1 a 3)).2 = 8 ∧ im t (t.2.1 a 3)) ∧
  ((t.1 (t.2.1 a 4)).1 = 10 ∧ (t.1 (t.2.1 a 4)).2 = 8 ∧ im t (t.2.1 a 4)) ∧
  ((t.1 (t.2.1 a 5)).1 = 10 ∧ (t.1 (t.2.1 a 5)).2 = 48 ∧ im t (t.2.1 a 5)) ∧
  ((t.1 (t.2.1 a 6)).1 = 10 ∧ (t.1 (t.2.1 a 6)).2 = 24 ∧ im t (t.2.1 a 6))
def MR (t : qT) (D : qD) (a : Nat) (N : Int → Int) : Prop :=
  (∀ k, 0 ≤ k → k < 9 → D (t.2.1 a 1) k = N k) ∧ (∀ r, 0 ≤ r → r < 4 → D (t.2.1 a 2) r = N (9 + r)) ∧ D a 7 = N 13 ∧
  (∀ l, 0 ≤ l → l < 8 → D (t.2.1 a 3) l = N (14 + 8 * l)) ∧ (∀ l, 0 ≤ l → l < 8 → D (t.2.1 a 4) l = N (14 + 8 * l + 1)) ∧
  (∀ l c, 0 ≤ l → l < 8 → 0 ≤ c → c < 6 → D (t.2.1 a 5) (l * 6 + c) = N (14 + 8 * l + 2 + c)) ∧ D a 8 = N 78 ∧
  (∀ i, 0 ≤ i → i < 24 → D (t.2.1 a 6) i = N (79 + i))
section KA
variable {S : (Nat → Int32) × Nat} {t : qT} {D G : qD} {Q : Int → qT → qD → Prop} {a k : Nat} {N : Int → Int}
theorem c1 {f b w : Int} (h : CO t k) (hi : 0 ≤ (f * 10 + b) * 6 + w ∧ (f * 10 + b) * 6 + w < 180) (q : Q (D (t.2.1 k 1) ((f * 10 + b) * 6 + w)) t D) : wp S 1 0 [some (qr k), some (qi f), some (qi b), some (qi w)] [] t D Q := by
  obtain ⟨h0, h1, h2, h3, h4, h5⟩ := h
  exact b1_0 (chk_i h0.1 (chk_i h1.1 (chk_i (by omega) q)))
theorem c3 {f : Int} (h : CO t k) (hi : 0 ≤ f ∧ f < 3) (q : Q (D (t.2.1 k 5) f) t D) : wp S 3 0 [some (qr k), some (qi f)] [] t D Q := by
  obtain ⟨h0, h1, h2, h3, h4, h5⟩ := h
  exact b3_0 (chk_i h0.1 (chk_i h5.1 (chk_i (by omega) q)))
theorem c5 {f p w : Int} (h : CO t k) (hi : 0 ≤ (f * 3 + p) * 5 + w ∧ (f * 3 + p) * 5 + w < 45) (q : Q (D (t.2.1 k 4) ((f * 3 + p) * 5 + w)) t D) : wp S 5 0 [some (qr k), some (qi f), some (qi p), some (qi w)] [] t D Q := by
  obtain ⟨h0, h1, h2, h3, h4, h5⟩ := h
  exact b5_0 (chk_i h0.1 (chk_i h4.1 (chk_i (by omega) q)))
theorem c7 {f : Int} (h : CO t k) (hi : 0 ≤ f ∧ f < 3) (q : Q (D (t.2.1 k 3) f) t D) : wp S 7 0 [some (qr k), some (qi f)] [] t D Q := by
  obtain ⟨h0, h1, h2, h3, h4, h5⟩ := h
  exact b7_0 (chk_i h0.1 (chk_i h3.1 (chk_i (by omega) q)))
theorem c8 {f s : Int} (h : CO t k) (hi : 0 ≤ (f * 8 + s) * 3 ∧ (f * 8 + s) * 3 + 2 < 72) (q : Q (D (t.2.1 k 2) ((f * 8 + s) * 3)) t D) : wp S 8 0 [some (qr k), some (qi f), some (qi s)] [] t D Q := by
  obtain ⟨h0, h1, h2, h3, h4, h5⟩ := h
  exact b8_0 (chk_i h0.1 (chk_i h2.1 (chk_i (by omega) q)))
theorem c9 {f s : Int} (h : CO t k) (hi : 0 ≤ (f * 8 + s) * 3 ∧ (f * 8 + s) * 3 + 2 < 72) (q : Q (D (t.2.1 k 2) ((f * 8 + s) * 3 + 1)) t D) : wp S 9 0 [some (qr k), some (qi f), some (qi s)] [] t D Q := by
  obtain ⟨h0, h1, h2, h3, h4, h5⟩ := h
  exact b9_0 (chk_i h0.1 (chk_i h2.1 (chk_i (by omega) q)))
theorem c10 {f s : Int} (h : CO t k) (hi : 0 ≤ (f * 8 + s) * 3 ∧ (f * 8 + s) * 3 + 2 < 72) (q : Q (D (t.2.1 k 2) ((f * 8 + s) * 3 + 2)) t D) : wp S 10 0 [some (qr k), some (qi f), some (qi s)] [] t D Q := by
  obtain ⟨h0, h1, h2, h3, h4, h5⟩ := h
  exact b10_0 (chk_i h0.1 (chk_i h2.1 (chk_i (by omega) q)))
theorem c102 {v b : Int} (hv : qR v) (hb : qR b) (q : Q (if 0 ≤ v ∧ v < b then 1 else 0) t D) : wp S 102 0 [some (qi v), some (qi b)] [] t D Q := by
  refine b102_0 (chk_i hv (ite_i (fun h => ?_) fun h => chk_i hv (chk_i hb (ite_i (fun h2 => ?_) fun h2 => ?_))))
  · rwa [if_neg (by omega)] at q
  · rwa [if_pos (by omega)] at q
  · rwa [if_neg (by omega)] at q
theorem c106 {k o ty : Int} (hk : 0 ≤ k ∧ k ≤ 4) (ho : qR o) (ht : qR ty) (h : Q (sDoes k o ty) t D) : wp S 106 0 [some (qi k), some (qi o), some (qi ty)] [] t D Q := by
  unfold sDoes at h
  refine b106_0 (chk_i (by omega) (ite_i (fun h1 => chk_i ht (chk_i ho (ite_i (fun h2 => ?_) fun h2 => ?_))) fun h1 => ite_i (fun h2 => ?_) fun h2 => ite_i (fun h3 => ?_) fun h3 => ite_i (fun h4 => chk_i ht (chk_i ho (ite_i (fun h5 => ?_) fun h5 => ?_))) fun h4 => chk_i ht (chk_i ho (ite_i (fun h5 => ?_) fun h5 => ?_))))
  · rwa [if_neg (by omega), if_neg (by omega), if_neg (by omega), if_pos h2] at h
  · rwa [if_neg (by omega), if_neg (by omega), if_neg (by omega), if_neg h2, if_neg (by omega)] at h
  · rwa [if_pos h2] at h
  · rwa [if_neg h2, if_pos h3] at h
  · rwa [if_neg h2, if_neg h3, if_pos h4, if_pos h5] at h
  · rwa [if_neg h2, if_neg h3, if_pos h4, if_neg h5] at h
  · rwa [if_neg h2, if_neg h3, if_neg h4, if_pos h5] at h
  · rwa [if_neg h2, if_neg h3, if_neg h4, if_neg h5, if_pos (by omega)] at h
theorem c26 {n : Int} (h : MO t a) (q : Q (D a 7 - 1 - n) t D) : wp S 26 0 [some (qr a), some (qi n)] [] t D Q := b26_0 (chk_i h.1.1 q)
/-- what a deed is, by level -/
theorem c35 {l p ty : Int} (hO : MO t a) (hM : MR t D a N) (hK : CR t D (t.2.1 a 0) G) (hC : CVd G) (hV : RVd (G 28 14) N) (hl : 0 ≤ l ∧ l < N 13) (hp : 0 ≤ p ∧ p < G 38 (N (14 + 8 * l))) (ht : 0 ≤ ty ∧ ty ≤ 4)
    (q : Q (sDA (G 40) N (N (14 + 8 * l)) p (N (14 + 8 * l + 1)) ty) t D) : wp S 35 0 [some (qr a), some (qi l), some (qi p), some (qi ty), none, none] [] t D Q := by
  have h8 := hV.1
  have hl2 := hV.2.1 l hl.1 hl.2
  have h1 := hC.1
  have h2 := hC.2.1 _ hl2.1 hl2.2.1
  have h3 := hC.2.2.2.2.2 _ p hl2.1 hl2.2.1 hp.1 hp.2
  have e3 := hM.2.2.2.1 l hl.1 (by omega)
  have e4 := hM.2.2.2.2.1 l hl.1 (by omega)
  have e5 : ∀ w, 0 ≤ w → w < 5 → D (t.2.1 (t.2.1 a 0) 4) ((N (14 + 8 * l) * 3 + p) * 5 + w) = G 40 (15 * N (14 + 8 * l) + 5 * p + w) := fun w x y => hK.2.2.2.2.1 _ p w hl2.1 hl2.2.1 hp.1 hp.2 x y
  have ek := hM.1 (N (14 + 8 * l) * 3 + p) (by omega) (by omega)
  have hk4 := hV.2.2.1 (N (14 + 8 * l) * 3 + p) (by omega) (by omega)
  have hO' := hO
  obtain ⟨o0, oc, o1, o2, o3, o4, o5, o6⟩ := hO
  unfold sDA at q
  rw [show 3 * N (14 + 8 * l) + p = N (14 + 8 * l) * 3 + p by omega] at q
  refine b35_0 (chk_i o0.1 (chk_i o3.1 (chk_i (by omega) (chk_i o0.1 (chk_i o4.1 (chk_i (by omega) (chk_i o0.1 (chk_i oc.1.1 ?_))))))))
  rw [e3, e4]
  refine c5 oc (by omega) ?_
  rw [e5 1 (by omega) (by omega)]
  refine chk_i (by omega) (chk_i (by omega) (ite_i (fun c => ?_) fun c => chk_i o0.1 (chk_i oc.1.1 (c5 oc (by omega) ?_))))
  · rwa [if_neg (by omega)] at q
  · rw [e5 2 (by omega) (by omega)]
    refine chk_i (by omega) (chk_i (by omega) (ite_i (fun c2 => ?_) fun c2 => ?_))
    · rwa [if_neg (by omega)] at q
    · rw [if_pos (by omega)] at q
      refine chk_i o0.1 (b103_0 ?_)
      refine chk_i o1.1 (chk_i (by omega) (chk_i o0.1 (chk_i oc.1.1 (c5 oc (by omega) ?_))))
      rw [e5 3 (by omega) (by omega), ek]
      exact c106 (by omega) (by omega) (by omega) q
theorem c32 {l r v : Int} (hO : MO t a) (hM : MR t D a N) (hK : CR t D (t.2.1 a 0) G) (hC : CVd G) (hV : RVd (G 28 14) N) (hl : 0 ≤ l ∧ l < N 13) (hr : 0 ≤ r ∧ r < 4)
    (q : Q (sReg (G 34) N (N 13 - 1 - l) r v) t D) : wp S 32 0 [some (qr a), some (qi l), some (qi r), some (qi v), none] [] t D Q := by
  have h8 := hV.1
  have hl2 := hV.2.1 l hl.1 hl.2
  have h1 := hC.1
  have e3 := hM.2.2.2.1 l hl.1 (by omega)
  have e4 := hM.2.2.2.2.1 l hl.1 (by omega)
  have er := hK.2.1 (N (14 + 8 * l)) (N (14 + 8 * l + 1)) r hl2.1 hl2.2.1 hl2.2.2.1 (by omega) hr.1 hr.2
  have hc := hC.2.2.2.1 (40 * N (14 + 8 * l) + 4 * N (14 + 8 * l + 1) + r) (by omega) (by omega)
  obtain ⟨o0, oc, o1, o2, o3, o4, o5, o6⟩ := hO
  have es : sAt N (N 13 - 1 - l) = 14 + 8 * l := by unfold sAt; omega
  unfold sReg sCell at q
  rw [es] at q
  refine b32_0 (chk_i o0.1 (chk_i o0.1 (chk_i o3.1 (chk_i (by omega) (chk_i o0.1 (chk_i o4.1 (chk_i (by omega) (chk_i oc.1.1 ?_))))))))
  rw [e3, e4]
  refine c1 oc (by omega) ?_
  rw [er]
  refine chk_i (by omega) (ite_i (fun c => ?_) fun c => chk_i o0.1 (chk_i o5.1 (chk_i (by omega) ?_)))
  · rwa [if_pos c] at q
  · rw [if_neg c] at q
    rw [hM.2.2.2.2.2.1 l _ (by omega) (by omega) (by omega) (by omega)]
    exact q
def sCl (sv N : Int → Int) (r : Int) : Nat → Int → Int → Int
  | 0, _, v => v
  | k + 1, n, v => sCl sv N r k (n + 1) (sReg sv N n r v)
theorem c33_15 {r low : Int} (hO : MO t a) (hM : MR t D a N) (hK : CR t D (t.2.1 a 0) G) (hC : CVd G) (hV : RVd (G 28 14) N) (hr : 0 ≤ r ∧ r < 4) (hlo : 0 ≤ low ∧ low < N 13) :
    ∀ (m : Nat) (l v : Int), m = l + 1 - low → l < N 13 → low ≤ l + 1 →
    Q (sCl (G 34) N r m (N 13 - 1 - l) v) t D → wp S 33 15 [some (qr a), some (qi low), some (qi r), some (qi v), some (qi l)] [] t D Q := by
  have h8 := hV.1
  intro m
  induction m with
  | zero =>
    intro l v hm hl1 hl2 q
    exact b33_15 (chk_i (by omega) (chk_i (by omega) (ite_i (fun c => q) fun c => absurd c (by omega))))
  | succ m ih =>
    intro l v hm hl1 hl2 q
    refine b33_15 (chk_i (by omega) (chk_i (by omega) (ite_i (fun c => absurd c (by omega)) fun c => chk_i (by omega) (ite_i (fun c2 => absurd c2 (by omega)) fun c2 => chk_i hO.1.1 (c32 hO hM hK hC hV ⟨by omega, hl1⟩ hr ?_)))))
    refine ih (l + -1) _ (by omega) (by omega) (by omega) ?_
    rw [show N 13 - 1 - (l + -1) = N 13 - 1 - l + 1 by omega]
    exact q
theorem c33 {r n : Int} (hO : MO t a) (hM : MR t D a N) (hK : CR t D (t.2.1 a 0) G) (hC : CVd G) (hV : RVd (G 28 14) N) (hr : 0 ≤ r ∧ r < 4) (hn : 0 ≤ n ∧ n < N 13)
    (q : Q (sCl (G 34) N r (n + 1).toNat 0 (N (9 + r))) t D) : wp S 33 0 [some (qr a), some (qi (N 13 - 1 - n)), some (qi r), none, none] [] t D Q := by
  have e2 := hM.2.1 r hr.1 hr.2
  have e7 := hM.2.2.1
  obtain ⟨o0, oc, o1, o2, o3, o4, o5, o6⟩ := id hO
  refine b33_0 (chk_i o0.1 (chk_i o2.1 (chk_i (by omega) (chk_i o0.1 ?_))))
  rw [e2, e7]
  refine c33_15 hO hM hK hC hV hr (by omega) (n + 1).toNat _ _ (by omega) (by omega) (by omega) ?_
  rw [show N 13 - 1 - (N 13 - 1) = 0 by omega]
  exact q
/-- the catcher of the reference, as the class tells it -/
def sCat3 (x : Int × (Int × Int)) : Int := if x.1 = -1 then -1 else 3 * x.1 + x.2.1
theorem c34_19 {n ty : Int} (hO : MO t a) (hM : MR t D a N) (hK : CR t D (t.2.1 a 0) G) (hC : CVd G) (hV : RVd (G 28 14) N) (ht : 0 ≤ ty ∧ ty ≤ 4) (hn : 0 ≤ n ∧ n < N 13) :
    ∀ (m : Nat) (p fin : Int), p + m = 3 → 0 ≤ p →
    ((sLp (G 38) (G 40) N n ty m p fin).1 = -1 → ∀ o4, wp S 34 2 [some (qr a), some (qi ty), some (qi (n + 1)), some (qi (N 13 - 1 - n)), o4] [] t D Q) →
    (¬ (sLp (G 38) (G 40) N n ty m p fin).1 = -1 → Q (3 * n + (sLp (G 38) (G 40) N n ty m p fin).1) t D) →
    wp S 34 19 [some (qr a), some (qi ty), some (qi n), some (qi (N 13 - 1 - n)), some (qi p)] [] t D Q := by
  have h8 := hV.1
  have hl2 := hV.2.1 (N 13 - 1 - n) (by omega) (by omega)
  have h1 := hC.1
  have h2 := hC.2.1 _ hl2.1 hl2.2.1
  have e3 := hM.2.2.2.1 (N 13 - 1 - n) (by omega) (by omega)
  have e5 := hK.2.2.2.1 _ hl2.1 hl2.2.1
  have ea : sAt N n = 14 + 8 * (N 13 - 1 - n) := rfl
  obtain ⟨o0, oc, o1, o2, o3, o4, o5, o6⟩ := id hO
  intro m
  induction m with
  | zero =>
    intro p fin hm hp q1 q2
    refine b34_19 (chk_i o0.1 (chk_i o0.1 (chk_i o3.1 (chk_i (by omega) (chk_i oc.1.1 ?_)))))
    rw [e3]
    refine c3 oc (by omega) ?_
    rw [e5]
    exact chk_i (by omega) (chk_i (by omega) (ite_i (fun c => absurd c (by omega)) fun c => q1 rfl _))
  | succ m ih =>
    intro p fin hm hp q1 q2
    refine b34_19 (chk_i o0.1 (chk_i o0.1 (chk_i o3.1 (chk_i (by omega) (chk_i oc.1.1 ?_)))))
    rw [e3]
    refine c3 oc (by omega) ?_
    rw [e5]
    have hr := sDA_r (G 40) N (N (14 + 8 * (N 13 - 1 - n))) p (N (14 + 8 * (N 13 - 1 - n) + 1)) ty
    unfold sLp at q1 q2
    rw [ea] at q1 q2
    refine chk_i (by omega) (chk_i (by omega) (ite_i (fun c => chk_i o0.1 (c35 hO hM hK hC hV (by omega) ⟨hp, c⟩ ht (chk_i (by omega) (ite_i (fun c2 => ?_) fun c2 => ?_)))) fun c => ?_))
    · rw [if_pos c, if_pos c2] at q2
      have := q2 (by show ¬ p = -1; omega)
      rw [show n * 3 + p = 3 * n + p by omega]
      exact this
    · rw [if_pos c, if_neg c2] at q1 q2
      by_cases c3 : sDA (G 40) N (N (14 + 8 * (N 13 - 1 - n))) p (N (14 + 8 * (N 13 - 1 - n) + 1)) ty = 2
      · rw [if_pos c3] at q1 q2
        exact ih (p + 1) (fin + 1) (by omega) (by omega) q1 q2
      · rw [if_neg c3] at q1 q2
        exact ih (p + 1) fin (by omega) (by omega) q1 q2
    · rw [if_neg c] at q1
      exact q1 rfl _
theorem c34_2 {ty : Int} (hO : MO t a) (hM : MR t D a N) (hK : CR t D (t.2.1 a 0) G) (hC : CVd G) (hV : RVd (G 28 14) N) (ht : 0 ≤ ty ∧ ty ≤ 4) :
    ∀ (m : Nat) (n fin : Int) (o3 o4 : Option qV), n + m = 8 → 0 ≤ n → 0 ≤ fin → Q (sCat3 (sLc (G 38) (G 40) N ty m n fin)) t D →
    wp S 34 2 [some (qr a), some (qi ty), some (qi n), o3, o4] [] t D Q := by
  have h8 := hV.1
  have e7 := hM.2.2.1
  intro m
  induction m with
  | zero =>
    intro n fin o3 o4 hm hn hf q
    refine b34_2 (chk_i hO.1.1 (chk_i (by omega) ?_))
    rw [e7]
    exact chk_i (by omega) (ite_i (fun c => absurd c (by omega)) fun c => q)
  | succ m ih =>
    intro n fin o3 o4 hm hn hf q
    refine b34_2 (chk_i hO.1.1 (chk_i (by omega) ?_))
    rw [e7]
    have hp := sLp_r (G 38) (G 40) N n ty 3 0 fin (by omega) (by omega) hf
    unfold sLc at q
    refine chk_i (by omega) (ite_i (fun c => chk_i hO.1.1 (c26 hO ?_)) fun c => ?_)
    · rw [if_pos c] at q
      rw [e7]
      refine c34_19 hO hM hK hC hV ht ⟨hn, c⟩ 3 0 fin rfl (Int.le_refl _) (fun c2 o4 => ?_) fun c2 => ?_
      · rw [if_pos c2] at q
        exact ih (n + 1) _ _ _ (by omega) (by omega) (Int.le_trans hf hp.2.1) q
      · rw [if_neg c2] at q
        unfold sCat3 at q
        rw [if_neg (by show ¬ n = -1; omega)] at q
        exact q
    · rw [if_neg c] at q
      exact q
theorem c34 {ty : Int} (hO : MO t a) (hM : MR t D a N) (hK : CR t D (t.2.1 a 0) G) (hC : CVd G) (hV : RVd (G 28 14) N) (ht : 0 ≤ ty ∧ ty ≤ 4)
    (q : Q (sCat3 (sCat (G 38) (G 40) N ty)) t D) : wp S 34 0 [some (qr a), some (qi ty), none, none, none] [] t D Q :=
  b34_0 (c34_2 hO hM hK hC hV ht 8 0 0 _ _ rfl (Int.le_refl _) (Int.le_refl _) q)
end KA
end
section
/-! ## the class: what is done to a machine of its own block -/
def ML (t : qT) (a : Nat) : Prop := t.2.1 a 1 = a + 1 ∧ t.2.1 a 2 = a + 2 ∧ t.2.1 a 3 = a + 3 ∧ t.2.1 a 4 = a + 4 ∧ t.2.1 a 5 = a + 5 ∧ t.2.1 a 6 = a + 6
def CB (t : qT) (k a : Nat) : Prop := k < a ∧ t.2.1 k 1 < a ∧ t.2.1 k 2 < a ∧ t.2.1 k 3 < a ∧ t.2.1 k 4 < a ∧ t.2.1 k 5 < a
def FR (a : Nat) (D D' : qD) : Prop := ∀ b, ¬ (a ≤ b ∧ b ≤ a + 6) → D' b = D b
theorem FR.rfl' {a : Nat} {D : qD} : FR a D D := fun _ _ => rfl
theorem FR.trans {a : Nat} {D E F : qD} (h : FR a D E) (k : FR a E F) : FR a D F := fun b hb => (k b hb).trans (h b hb)
theorem FR.up {a b : Nat} {D : qD} {i v : Int} (h : a ≤ b ∧ b ≤ a + 6) : FR a D (up D b i v) := fun c hc => by
  rw [up_eq]; exact upr_n (by rintro rfl; exact hc h)
theorem CR.fr {t : qT} {D D' G : qD} {k a : Nat} (h : CR t D k G) (hb : CB t k a) (hf : FR a D D') : CR t D' k G := by
  obtain ⟨b0, b1, b2, b3, b4, b5⟩ := hb
  unfold CR
  rw [hf k (by omega), hf _ (show ¬ (a ≤ t.2.1 k 1 ∧ _) by omega), hf _ (show ¬ (a ≤ t.2.1 k 2 ∧ _) by omega), hf _ (show ¬ (a ≤ t.2.1 k 3 ∧ _) by omega), hf _ (show ¬ (a ≤ t.2.1 k 4 ∧ _) by omega), hf _ (show ¬ (a ≤ t.2.1 k 5 ∧ _) by omega)]
  exact h
section KB
variable {S : (Nat → Int32) × Nat} {t : qT} {D G : qD} {Q : Int → qT → qD → Prop} {a k : Nat} {N : Int → Int}
theorem MR.w_kd {i v : Int} (h : MR t D a N) (hl : ML t a) (hi : 0 ≤ i ∧ i < 9) : MR t (up D (t.2.1 a 1) i v) a (ui N i v) := by
  obtain ⟨l1, l2, l3, l4, l5, l6⟩ := hl
  obtain ⟨h1, h2, h3, h4, h5, h6, h7, h8⟩ := h
  refine ⟨fun x p q => ?_, fun x p q => ?_, ?_, fun x p q => ?_, fun x p q => ?_, fun x y p q r s => ?_, ?_, fun x p q => ?_⟩
  · have := h1 x p q; unfold up ui; (repeat' split) <;> first | omega | assumption
  · have := h2 x p q; unfold up ui; (repeat' split) <;> first | omega | assumption
  · have := h3; unfold up ui; (repeat' split) <;> first | omega | assumption
  · have := h4 x p q; unfold up ui; (repeat' split) <;> first | omega | assumption
  · have := h5 x p q; unfold up ui; (repeat' split) <;> first | omega | assumption
  · have := h6 x y p q r s; unfold up ui; (repeat' split) <;> first | omega | assumption
  · have := h7; unfold up ui; (repeat' split) <;> first | omega | assumption
  · have := h8 x p q; unfold up ui; (repeat' split) <;> first | omega | assumption
theorem MR.w_rg {i v : Int} (h : MR t D a N) (hl : ML t a) (hi : 0 ≤ i ∧ i < 4) : MR t (up D (t.2.1 a 2) i v) a (ui N (9 + i) v) := by
  obtain ⟨l1, l2, l3, l4, l5, l6⟩ := hl
  obtain ⟨h1, h2, h3, h4, h5, h6, h7, h8⟩ := h
  refine ⟨fun x p q => ?_, fun x p q => ?_, ?_, fun x p q => ?_, fun x p q => ?_, fun x y p q r s => ?_, ?_, fun x p q => ?_⟩
  · have := h1 x p q; unfold up ui; (repeat' split) <;> first | omega | assumption
  · have := h2 x p q; unfold up ui; (repeat' split) <;> first | omega | assumption
  · have := h3; unfold up ui; (repeat' split) <;> first | omega | assumption
  · have := h4 x p q; unfold up ui; (repeat' split) <;> first | omega | assumption
  · have := h5 x p q; unfold up ui; (repeat' split) <;> first | omega | assumption
  · have := h6 x y p q r s; unfold up ui; (repeat' split) <;> first | omega | assumption
  · have := h7; unfold up ui; (repeat' split) <;> first | omega | assumption
  · have := h8 x p q; unfold up ui; (repeat' split) <;> first | omega | assumption
theorem MR.w_fr {v : Int} (h : MR t D a N) (hl : ML t a) : MR t (up D a 7 v) a (ui N 13 v) := by
  obtain ⟨l1, l2, l3, l4, l5, l6⟩ := hl
  obtain ⟨h1, h2, h3, h4, h5, h6, h7, h8⟩ := h
  refine ⟨fun x p q => ?_, fun x p q => ?_, ?_, fun x p q => ?_, fun x p q => ?_, fun x y p q r s => ?_, ?_, fun x p q => ?_⟩
  · have := h1 x p q; unfold up ui; (repeat' split) <;> first | omega | assumption
  · have := h2 x p q; unfold up ui; (repeat' split) <;> first | omega | assumption
  · have := h3; unfold up ui; (repeat' split) <;> first | omega | assumption
  · have := h4 x p q; unfold up ui; (repeat' split) <;> first | omega | assumption
  · have := h5 x p q; unfold up ui; (repeat' split) <;> first | omega | assumption
  · have := h6 x y p q r s; unfold up ui; (repeat' split) <;> first | omega | assumption
  · have := h7; unfold up ui; (repeat' split) <;> first | omega | assumption
  · have := h8 x p q; unfold up ui; (repeat' split) <;> first | omega | assumption
theorem MR.w_fn {l v : Int} (h : MR t D a N) (hl : ML t a) (hi : 0 ≤ l ∧ l < 8) : MR t (up D (t.2.1 a 3) l v) a (ui N (14 + 8 * l) v) := by
  obtain ⟨l1, l2, l3, l4, l5, l6⟩ := hl
  obtain ⟨h1, h2, h3, h4, h5, h6, h7, h8⟩ := h
  refine ⟨fun x p q => ?_, fun x p q => ?_, ?_, fun x p q => ?_, fun x p q => ?_, fun x y p q r s => ?_, ?_, fun x p q => ?_⟩
  · have := h1 x p q; unfold up ui; (repeat' split) <;> first | omega | assumption
  · have := h2 x p q; unfold up ui; (repeat' split) <;> first | omega | assumption
  · have := h3; unfold up ui; (repeat' split) <;> first | omega | assumption
  · have := h4 x p q; unfold up ui; (repeat' split) <;> first | omega | assumption
  · have := h5 x p q; unfold up ui; (repeat' split) <;> first | omega | assumption
  · have := h6 x y p q r s; unfold up ui; (repeat' split) <;> first | omega | assumption
  · have := h7; unfold up ui; (repeat' split) <;> first | omega | assumption
  · have := h8 x p q; unfold up ui; (repeat' split) <;> first | omega | assumption
theorem MR.w_ad {l v : Int} (h : MR t D a N) (hl : ML t a) (hi : 0 ≤ l ∧ l < 8) : MR t (up D (t.2.1 a 4) l v) a (ui N (14 + 8 * l + 1) v) := by
  obtain ⟨l1, l2, l3, l4, l5, l6⟩ := hl
  obtain ⟨h1, h2, h3, h4, h5, h6, h7, h8⟩ := h
  refine ⟨fun x p q => ?_, fun x p q => ?_, ?_, fun x p q => ?_, fun x p q => ?_, fun x y p q r s => ?_, ?_, fun x p q => ?_⟩
  · have := h1 x p q; unfold up ui; (repeat' split) <;> first | omega | assumption
  · have := h2 x p q; unfold up ui; (repeat' split) <;> first | omega | assumption
  · have := h3; unfold up ui; (repeat' split) <;> first | omega | assumption
  · have := h4 x p q; unfold up ui; (repeat' split) <;> first | omega | assumption
  · have := h5 x p q; unfold up ui; (repeat' split) <;> first | omega | assumption
  · have := h6 x y p q r s; unfold up ui; (repeat' split) <;> first | omega | assumption
  · have := h7; unfold up ui; (repeat' split) <;> first | omega | assumption
  · have := h8 x p q; unfold up ui; (repeat' split) <;> first | omega | assumption
theorem MR.w_cl {l c v : Int} (h : MR t D a N) (hl : ML t a) (hi : 0 ≤ l ∧ l < 8) (hc : 0 ≤ c ∧ c < 6) : MR t (up D (t.2.1 a 5) (l * 6 + c) v) a (ui N (14 + 8 * l + 2 + c) v) := by
  obtain ⟨l1, l2, l3, l4, l5, l6⟩ := hl
  obtain ⟨h1, h2, h3, h4, h5, h6, h7, h8⟩ := h
  refine ⟨fun x p q => ?_, fun x p q => ?_, ?_, fun x p q => ?_, fun x p q => ?_, fun x y p q r s => ?_, ?_, fun x p q => ?_⟩
  · have := h1 x p q; unfold up ui; (repeat' split) <;> first | omega | assumption
  · have := h2 x p q; unfold up ui; (repeat' split) <;> first | omega | assumption
  · have := h3; unfold up ui; (repeat' split) <;> first | omega | assumption
  · have := h4 x p q; unfold up ui; (repeat' split) <;> first | omega | assumption
  · have := h5 x p q; unfold up ui; (repeat' split) <;> first | omega | assumption
  · have := h6 x y p q r s; unfold up ui; (repeat' split) <;> first | omega | assumption
  · have := h7; unfold up ui; (repeat' split) <;> first | omega | assumption
  · have := h8 x p q; unfold up ui; (repeat' split) <;> first | omega | assumption
theorem MR.w_fc {v : Int} (h : MR t D a N) (hl : ML t a) : MR t (up D a 8 v) a (ui N 78 v) := by
  obtain ⟨l1, l2, l3, l4, l5, l6⟩ := hl
  obtain ⟨h1, h2, h3, h4, h5, h6, h7, h8⟩ := h
  refine ⟨fun x p q => ?_, fun x p q => ?_, ?_, fun x p q => ?_, fun x p q => ?_, fun x y p q r s => ?_, ?_, fun x p q => ?_⟩
  · have := h1 x p q; unfold up ui; (repeat' split) <;> first | omega | assumption
  · have := h2 x p q; unfold up ui; (repeat' split) <;> first | omega | assumption
  · have := h3; unfold up ui; (repeat' split) <;> first | omega | assumption
  · have := h4 x p q; unfold up ui; (repeat' split) <;> first | omega | assumption
  · have := h5 x p q; unfold up ui; (repeat' split) <;> first | omega | assumption
  · have := h6 x y p q r s; unfold up ui; (repeat' split) <;> first | omega | assumption
  · have := h7; unfold up ui; (repeat' split) <;> first | omega | assumption
  · have := h8 x p q; unfold up ui; (repeat' split) <;> first | omega | assumption
theorem MR.w_dn {i v : Int} (h : MR t D a N) (hl : ML t a) (hi : 0 ≤ i ∧ i < 24) : MR t (up D (t.2.1 a 6) i v) a (ui N (79 + i) v) := by
  obtain ⟨l1, l2, l3, l4, l5, l6⟩ := hl
  obtain ⟨h1, h2, h3, h4, h5, h6, h7, h8⟩ := h
  refine ⟨fun x p q => ?_, fun x p q => ?_, ?_, fun x p q => ?_, fun x p q => ?_, fun x y p q r s => ?_, ?_, fun x p q => ?_⟩
  · have := h1 x p q; unfold up ui; (repeat' split) <;> first | omega | assumption
  · have := h2 x p q; unfold up ui; (repeat' split) <;> first | omega | assumption
  · have := h3; unfold up ui; (repeat' split) <;> first | omega | assumption
  · have := h4 x p q; unfold up ui; (repeat' split) <;> first | omega | assumption
  · have := h5 x p q; unfold up ui; (repeat' split) <;> first | omega | assumption
  · have := h6 x y p q r s; unfold up ui; (repeat' split) <;> first | omega | assumption
  · have := h7; unfold up ui; (repeat' split) <;> first | omega | assumption
  · have := h8 x p q; unfold up ui; (repeat' split) <;> first | omega | assumption
theorem svN_r (op : Int → Int) (f : Int) : ∀ n : Nat, 0 ≤ svN op f n ∧ svN op f n ≤ n := by
  intro n
  induction n with
  | zero => exact ⟨Int.le_refl _, Int.le_refl _⟩
  | succ n ih =>
    show 0 ≤ svN op f n + _ ∧ svN op f n + _ ≤ _
    split <;> omega
theorem svN_m (op : Int → Int) (f : Int) : ∀ (m n : Nat), n ≤ m → svN op f n ≤ svN op f m := by
  intro m
  induction m with
  | zero => intro n h; obtain rfl : n = 0 := by omega
            exact Int.le_refl _
  | succ m ih =>
    intro n h
    by_cases c : n = m + 1
    · rw [c]; exact Int.le_refl _
    · have := ih n (by omega)
      show _ ≤ svN op f m + _
      split <;> omega
theorem adN_r (hC : CVd G) {f : Int} (hf : 0 ≤ f ∧ f < G 28 14) : ∀ n : Nat, n ≤ G 37 f → 0 ≤ adN (G 39) f n ∧ adN (G 39) f n ≤ 9 * n := by
  intro n
  induction n with
  | zero => intro _; exact ⟨Int.le_refl _, Int.le_refl _⟩
  | succ n ih =>
    intro h
    have h1 := ih (by omega)
    have h2 := hC.2.2.1 f n hf.1 hf.2 (by omega) (by omega)
    show 0 ≤ adN (G 39) f n + _ ∧ adN (G 39) f n + _ ≤ _
    split <;> omega
theorem c30_16 {f l at_ : Int} (hO : MO t a) (hL : ML t a) (hB : CB t (t.2.1 a 0) a) (hC : CVd G) (hf : 0 ≤ f ∧ f < G 28 14) (hl : 0 ≤ l ∧ l < 8) (ha : at_ = 14 + 8 * l) :
    ∀ (m n : Nat) (D : qD) (N : Int → Int), n + m = 8 → n ≤ G 37 f → CR t D (t.2.1 a 0) G → MR t D a N → qR (N (at_ + 1)) →
    (∀ D', MR t D' a (sSv (G 37) (G 39) f at_ m n (adN (G 39) f n) N) → FR a D D' → Q 0 t D') →
    wp S 30 16 [some (qr a), some (qi l), some (qi f), some (qi (svN (G 39) f n))] [] t D Q := by
  have h1 := hC.1
  have h2 := hC.2.1 f hf.1 hf.2
  obtain ⟨o0, oc, o1, o2, o3, o4, o5, o6⟩ := id hO
  have hL' := hL
  obtain ⟨l1, l2, l3, l4, l5, l6⟩ := hL
  intro m
  induction m with
  | zero =>
    intro n D N hm hn hK hM hN q
    have e := hK.2.2.2.2.2.1 f hf.1 hf.2
    have hsv := svN_r (G 39) f n
    refine b30_16 (chk_i o0.1 (chk_i oc.1.1 (c7 oc (by omega) ?_)))
    rw [e, show (G 37 f).toNat = n by omega]
    exact chk_i (by omega) (chk_i (by omega) (ite_i (fun c => absurd c (by omega)) fun c => q D hM FR.rfl'))
  | succ m ih =>
    intro n D N hm hn hK hM hN q
    have e := hK.2.2.2.2.2.1 f hf.1 hf.2
    have hsv := svN_r (G 39) f n
    by_cases hlt : (n : Int) < G 37 f
    · have hop := hC.2.2.1 f n hf.1 hf.2 (by omega) hlt
      have had := adN_r hC hf n hn
      have ev : svN (G 39) f (n + 1) = svN (G 39) f n + if G 39 (24 * f + 3 * n) = 115 then 1 else 0 := rfl
      have ea : adN (G 39) f (n + 1) = adN (G 39) f n + if G 39 (24 * f + 3 * n) = 43 then G 39 (24 * f + 3 * n + 1) else 0 := rfl
      have es : sSv (G 37) (G 39) f at_ (m + 1) n (adN (G 39) f n) N = if (n : Int) < G 37 f then
        (if G 39 (24 * f + 3 * n) = 43 then sSv (G 37) (G 39) f at_ m (n + 1) (adN (G 39) f n + G 39 (24 * f + 3 * n + 1)) N
         else if G 39 (24 * f + 3 * n) = 115 ∧ adN (G 39) f n = N (at_ + 1) then sSv (G 37) (G 39) f at_ m (n + 1) (adN (G 39) f n) (ui N (at_ + 2 + G 39 (24 * f + 3 * n + 2)) (N (9 + G 39 (24 * f + 3 * n + 1))))
         else sSv (G 37) (G 39) f at_ m (n + 1) (adN (G 39) f n) N) else N := rfl
      rw [if_pos hlt] at es
      have ih' := ih (n + 1)
      rw [ev, ea, show ((n + 1 : Nat) : Int) = (n : Int) + 1 from rfl] at ih'
      by_cases c115 : G 39 (24 * f + 3 * n) = 115
      · rw [if_pos c115, if_neg (by omega), Int.add_zero] at ih'
        rw [if_neg (by omega)] at es
        have hs := hK.2.2.2.2.2.2 f n hf.1 hf.2 hlt c115
        have hmono := svN_m (G 39) f (G 37 f).toNat (n + 1) (by omega)
        rw [ev, if_pos c115] at hmono
        have hsv2 := svN_r (G 39) f (G 37 f).toNat
        have hM4 := hM.2.2.2.2.1 l hl.1 hl.2
        rw [← ha] at hM4
        refine b30_16 (chk_i o0.1 (chk_i oc.1.1 (c7 oc (by omega) ?_)))
        rw [e]
        refine chk_i (by omega) (chk_i (by omega) (ite_i (fun c => chk_i o0.1 (chk_i oc.1.1 (c8 oc (by omega) ?_))) fun c => absurd c (by omega)))
        rw [hs.1, hM4]
        refine chk_i o0.1 (chk_i o4.1 (chk_i (by omega) (chk_i (by omega) (chk_i (by omega) (ite_i (fun c => ?_) fun c => ?_)))))
        · rw [if_pos ⟨c115, c⟩] at es
          refine chk_i o0.1 (chk_i o0.1 (chk_i oc.1.1 (c10 oc (by omega) ?_)))
          rw [hs.2.2]
          refine chk_i o0.1 (chk_i o0.1 (chk_i oc.1.1 (c9 oc (by omega) ?_)))
          rw [hs.2.1, hM.2.1 _ (by omega) (by omega)]
          refine chk_i o2.1 (chk_i (by omega) (chk_i o5.1 (chk_i (by omega) ?_)))
          have hfr : FR a D (up D (t.2.1 a 5) (l * 6 + G 39 (24 * f + 3 * n + 2)) (N (9 + G 39 (24 * f + 3 * n + 1)))) := FR.up (by omega)
          refine ih' _ (ui N (14 + 8 * l + 2 + G 39 (24 * f + 3 * n + 2)) (N (9 + G 39 (24 * f + 3 * n + 1)))) (by omega) (by omega) (hK.fr hB hfr) (hM.w_cl hL' hl (by omega)) ?_ fun D' h3 h4 => ?_
          · rw [ui_n (by omega)]; exact hN
          · rw [← ha] at h3
            refine q D' ?_ (hfr.trans h4)
            rw [es]; exact h3
        · rw [if_neg (fun z => c z.2)] at es
          refine ih' _ N (by omega) (by omega) hK hM hN fun D' h3 h4 => ?_
          refine q D' ?_ h4
          rw [es]; exact h3
      · rw [if_neg c115, Int.add_zero] at ih'
        refine ih' _ N (by omega) (by omega) hK hM hN fun D' h3 h4 => ?_
        refine q D' ?_ h4
        rw [es]
        by_cases c43 : G 39 (24 * f + 3 * n) = 43
        · rw [if_pos c43] at h3 ⊢; exact h3
        · rw [if_neg c43, Int.add_zero] at h3
          rw [if_neg c43, if_neg (fun z => c115 z.1)]; exact h3
    · refine b30_16 (chk_i o0.1 (chk_i oc.1.1 (c7 oc (by omega) ?_)))
      have es : sSv (G 37) (G 39) f at_ (m + 1) n (adN (G 39) f n) N = N := if_neg hlt
      rw [e, show (G 37 f).toNat = n by omega]
      refine chk_i (by omega) (chk_i (by omega) (ite_i (fun c => absurd c (by omega)) fun c => q D ?_ FR.rfl'))
      rw [es]; exact hM
theorem c30 (hO : MO t a) (hL : ML t a) (hB : CB t (t.2.1 a 0) a) (hC : CVd G) (hK : CR t D (t.2.1 a 0) G) (hM : MR t D a N) (h13 : 1 ≤ N 13 ∧ N 13 ≤ 8) (hf : 0 ≤ N (sAt N 0) ∧ N (sAt N 0) < G 28 14) (hN : qR (N (sAt N 0 + 1)))
    (q : ∀ D', MR t D' a (sSv (G 37) (G 39) (N (sAt N 0)) (sAt N 0) 8 0 0 N) → FR a D D' → Q 0 t D') : wp S 30 0 [some (qr a), none, none, none] [] t D Q := by
  obtain ⟨o0, oc, o1, o2, o3, o4, o5, o6⟩ := id hO
  have e7 := hM.2.2.1
  have e3 := hM.2.2.2.1 (N 13 - 1) (by omega) (by omega)
  have ha : sAt N 0 = 14 + 8 * (N 13 - 1) := by unfold sAt; omega
  rw [← ha] at e3
  have h2 := (hC.2.1 _ hf.1 hf.2).1
  refine b30_0 (chk_i o0.1 (chk_i o0.1 (chk_i o3.1 (chk_i (by omega) ?_))))
  rw [e7, e3]
  exact c30_16 hO hL hB hC hf (by omega) ha 8 0 D N rfl h2 hK hM hN q
theorem c28_32 {f : Int} (hO : MO t a) (hL : ML t a) (hB : CB t (t.2.1 a 0) a) (hC : CVd G) (hf : 0 ≤ f ∧ f < G 28 14) {b : Int} (hb : 0 ≤ b ∧ b < 8) :
    ∀ (m : Nat) (j : Int) (D : qD) (N : Int → Int), j + m = 6 → 0 ≤ j → N 13 = b → N (14 + 8 * b) = f → N (14 + 8 * b + 1) = 0 → CR t D (t.2.1 a 0) G → MR t D a N →
    (∀ D' , MR t D' a (sSv (G 37) (G 39) f (14 + 8 * b) 8 0 0 (ui (cpf N (fun _ => 0) (14 + 8 * b + 2 + j) (14 + 8 * b + 8)) 13 (b + 1))) → FR a D D' → Q 0 t D') →
    wp S 28 32 [some (qr a), some (qi f), some (qi j)] [] t D Q := by
  obtain ⟨o0, oc, o1, o2, o3, o4, o5, o6⟩ := id hO
  obtain ⟨l1, l2, l3, l4, l5, l6⟩ := id hL
  intro m
  induction m with
  | zero =>
    intro j D N hm hj h13 hNf hN0 hK hM q
    obtain rfl : j = 6 := by omega
    have e7 := hM.2.2.1
    have hfr : FR a D (up D a 7 (D a 7 + 1)) := FR.up (by omega)
    refine b28_32 (chk_i (by omega) (ite_i (fun c => absurd c (by omega)) fun c => chk_i o0.1 (chk_i o0.1 (chk_i o0.1 ?_))))
    have hM' := hM.w_fr (v := D a 7 + 1) hL
    rw [e7, h13] at hM'
    have ea : sAt (ui N 13 (b + 1)) 0 = 14 + 8 * b := by unfold sAt; rw [ui_s]; omega
    refine c30 (N := ui N 13 (b + 1)) hO hL hB hC (hK.fr hB hfr) (by rw [e7, h13]; exact hM') (by rw [ui_s]; omega) ?_ ?_ fun D' h1 h2 => ?_
    · rw [ea, ui_n (by omega), hNf]; exact hf
    · rw [ea, ui_n (by omega), hN0]; omega
    · rw [ea, ui_n (by omega), hNf] at h1
      rw [show (14 + 8 * b + 2 + 6 : Int) = 14 + 8 * b + 8 by omega, cpf_0] at q
      exact q D' h1 (hfr.trans h2)
  | succ m ih =>
    intro j D N hm hj h13 hNf hN0 hK hM q
    have e7 := hM.2.2.1
    refine b28_32 (chk_i (by omega) (ite_i (fun c => chk_i o0.1 (chk_i o0.1 (chk_i o5.1 (chk_i (by omega) ?_)))) fun c => absurd c (by omega)))
    rw [e7, h13]
    have hfr : FR a D (up D (t.2.1 a 5) (b * 6 + j) 0) := FR.up (by omega)
    refine ih (j + 1) _ (ui N (14 + 8 * b + 2 + j) 0) (by omega) (by omega) (by rw [ui_n (by omega)]; exact h13) (by rw [ui_n (by omega)]; exact hNf) (by rw [ui_n (by omega)]; exact hN0) (hK.fr hB hfr) (hM.w_cl hL hb (by omega)) fun D' h1 h2 => ?_
    refine q D' ?_ (hfr.trans h2)
    have e : cpf (ui N (14 + 8 * b + 2 + j) 0) (fun _ => 0) (14 + 8 * b + 2 + (j + 1)) (14 + 8 * b + 8) = cpf N (fun _ => 0) (14 + 8 * b + 2 + j) (14 + 8 * b + 8) := by
      funext i
      unfold cpf ui
      dsimp only
      (repeat' split) <;> first | rfl | omega
    rw [e] at h1
    exact h1
theorem c28 {f : Int} (hO : MO t a) (hL : ML t a) (hB : CB t (t.2.1 a 0) a) (hC : CVd G) (hK : CR t D (t.2.1 a 0) G) (hM : MR t D a N) (h13 : 0 ≤ N 13 ∧ N 13 ≤ 8) (hf : 0 ≤ f ∧ f < G 28 14)
    (q : ∀ D', MR t D' a (if N 13 < 8 then sCall (G 37) (G 39) N f else N) → FR a D D' → Q 0 t D') : wp S 28 0 [some (qr a), some (qi f), none] [] t D Q := by
  obtain ⟨o0, oc, o1, o2, o3, o4, o5, o6⟩ := id hO
  obtain ⟨l1, l2, l3, l4, l5, l6⟩ := id hL
  have e7 := hM.2.2.1
  refine b28_0 (chk_i o0.1 (chk_i (by omega) (ite_i (fun c => ?_) fun c => ?_)))
  · have e8 : up D (t.2.1 a 3) (D a 7) f a 7 = D a 7 := by rw [up_eq, upr_n (by omega)]
    rw [e8]
    rw [e7] at c ⊢
    rw [if_pos c] at q
    refine chk_i o0.1 (chk_i o0.1 (chk_i o3.1 (chk_i (by omega) (chk_i o0.1 (chk_i o0.1 (chk_i o4.1 (chk_i (by omega) ?_)))))))
    have f1 : FR a D (up D (t.2.1 a 3) (N 13) f) := FR.up (by omega)
    have f2 : FR a (up D (t.2.1 a 3) (N 13) f) (up (up D (t.2.1 a 3) (N 13) f) (t.2.1 a 4) (N 13) 0) := FR.up (by omega)
    have f3 := f1.trans f2
    have hM1 := (hM.w_fn (v := f) hL (l := N 13) (by omega)).w_ad (v := 0) hL (l := N 13) (by omega)
    refine c28_32 hO hL hB hC hf (b := N 13) (by omega) 6 0 _ _ rfl (Int.le_refl _) ?_ ?_ ?_ (hK.fr hB f3) hM1 fun D' h1 h2 => ?_
    · rw [ui_n (by omega), ui_n (by omega)]
    · rw [ui_n (by omega), ui_s]
    · rw [ui_s]
    · refine q D' ?_ (f3.trans h2)
      unfold sCall
      have e : ui (cpf (ui (ui N (14 + 8 * N 13) f) (14 + 8 * N 13 + 1) 0) (fun _ => 0) (14 + 8 * N 13 + 2 + 0) (14 + 8 * N 13 + 8)) 13 (N 13 + 1) = ui (sClr (ui N 13 (N 13 + 1)) (14 + 8 * N 13)) (14 + 8 * N 13) f := by
        funext i
        unfold sClr cpf ui
        dsimp only
        (repeat' split) <;> first | rfl | omega
      rw [e] at h1
      exact h1
  · rw [e7] at c
    rw [if_neg c] at q
    exact q D hM FR.rfl'
theorem c29 (hO : MO t a) (hL : ML t a) (hB : CB t (t.2.1 a 0) a) (hC : CVd G) (hK : CR t D (t.2.1 a 0) G) (hM : MR t D a N) (hV : RVd (G 28 14) N) (h13 : 1 ≤ N 13)
    (q : ∀ D', MR t D' a (sStep (G 37) (G 39) N) → FR a D D' → Q 0 t D') : wp S 29 0 [some (qr a)] [] t D Q := by
  obtain ⟨o0, oc, o1, o2, o3, o4, o5, o6⟩ := id hO
  obtain ⟨l1, l2, l3, l4, l5, l6⟩ := id hL
  have e7 := hM.2.2.1
  have h8 := hV.1
  have ha := sAt_r hV (Int.le_refl 0) (by omega)
  have es : sAt N 0 = 14 + 8 * (N 13 - 1) := by unfold sAt; omega
  have e4 := hM.2.2.2.2.1 (N 13 - 1) (by omega) (by omega)
  rw [← es] at e4
  refine b29_0 (chk_i o0.1 (chk_i (by omega) (ite_i (fun c => ?_) fun c => absurd c (by omega))))
  rw [e7, e4]
  have f1 : FR a D (up D (t.2.1 a 4) (N 13 - 1) (N (sAt N 0 + 1) + 1)) := FR.up (by omega)
  refine chk_i o0.1 (chk_i o0.1 (chk_i o4.1 (chk_i (by omega) (chk_i o4.1 (chk_i (by omega) (chk_i o0.1 ?_))))))
  have hM1 := hM.w_ad (v := N (sAt N 0 + 1) + 1) hL (l := N 13 - 1) (by omega)
  rw [← es] at hM1
  have e13 : ui N (sAt N 0 + 1) (N (sAt N 0 + 1) + 1) 13 = N 13 := ui_n (by omega)
  have ea : sAt (ui N (sAt N 0 + 1) (N (sAt N 0 + 1) + 1)) 0 = sAt N 0 := sAt_d (by rw [e13])
  refine c30 hO hL hB hC (hK.fr hB f1) hM1 (by rw [e13]; omega) ?_ ?_ fun D' h1 h2 => ?_
  · rw [ea, ui_n (by omega)]; exact ha.2.1
  · rw [ea, ui_s]; omega
  · rw [ea, ui_n (by omega)] at h1
    exact q D' h1 (f1.trans h2)
end KB
end
section
/-! ## the class: new objects -/
def AC (t0 : qT) (D0 : qD) (a : Nat) (sh : Int → Nat × Int) (rw : Int → Int → Int) (j : Int) (s : Nat) (t : qT) (D : qD) : Prop :=
  (0 ≤ j ∧ t.2.2.1 = a + 1 + j.toNat ∧ t.2.2.2 ≤ s) ∧ (∀ b, b ≤ a → t.1 b = t0.1 b) ∧ (∀ b, b < a → t.2.1 b = t0.2.1 b) ∧ (∀ b, b ≤ a → D b = D0 b) ∧
  (∀ i, 1 ≤ i → i ≤ j → t.2.1 a i = a + i.toNat ∧ t.1 (a + i.toNat) = sh i ∧ D (a + i.toNat) = rw i) ∧ (∀ i, ¬ (1 ≤ i ∧ i ≤ j) → t.2.1 a i = t0.2.1 a i)
theorem AC.zero {t0 : qT} {D0 : qD} {a : Nat} {sh : Int → Nat × Int} {rw : Int → Int → Int} (h : t0.2.2.1 = a + 1) : AC t0 D0 a sh rw 0 t0.2.2.2 t0 D0 :=
  ⟨⟨Int.le_refl _, h, Nat.le_refl _⟩, fun _ _ => rfl, fun _ _ => rfl, fun _ _ => rfl, fun i h1 h2 => absurd h1 (by omega), fun _ _ => rfl⟩
theorem AC.step {t0 : qT} {D0 : qD} {a : Nat} {sh : Int → Nat × Int} {rw : Int → Int → Int} {j i : Int} {s s' z : Nat} {t : qT} {D : qD} {K : Nat × Int} {R : Int → Int} (h : AC t0 D0 a sh rw j s t D) (hi : i = j + 1) (hK : K = sh i) (hR : R = rw i) (hz : s + z ≤ s') :
    AC t0 D0 a sh rw i s' (nwT t.1 t.2.2.1 K, upP (nwP t.2.1 t.2.2.1) a i t.2.2.1, (t.2.2.1 + 1, t.2.2.2 + z)) (upr D t.2.2.1 R) := by
  obtain ⟨⟨h0, h1, h2⟩, h3, h4, h5, h6, h7⟩ := h
  subst hi
  refine ⟨⟨by omega, by show t.2.2.1 + 1 = _; omega, by show t.2.2.2 + z ≤ _; omega⟩, fun b hb => ?_, fun b hb => ?_, fun b hb => ?_, fun x hx1 hx2 => ?_, fun x hx => ?_⟩
  · show (if b = t.2.2.1 then K else t.1 b) = _
    rw [if_neg (by omega)]; exact h3 b hb
  · funext y
    show (if b = a ∧ y = j + 1 then t.2.2.1 else if b = t.2.2.1 then 0 else t.2.1 b y) = _
    rw [if_neg (by omega), if_neg (by omega), h4 b hb]
  · rw [upr_n (by omega)]; exact h5 b hb
  · show (if a = a ∧ x = j + 1 then t.2.2.1 else if a = t.2.2.1 then 0 else t.2.1 a x) = _ ∧ (if a + x.toNat = t.2.2.1 then K else t.1 (a + x.toNat)) = _ ∧ _
    by_cases c : x = j + 1
    · subst c
      have e : a + (j + 1).toNat = t.2.2.1 := by omega
      rw [if_pos ⟨rfl, rfl⟩, if_pos e, e, upr_s]
      exact ⟨rfl, hK, hR⟩
    · have := h6 x hx1 (by omega)
      rw [if_neg (by omega), if_neg (by omega), if_neg (by omega), upr_n (by omega)]
      exact this
  · show (if a = a ∧ x = j + 1 then t.2.2.1 else if a = t.2.2.1 then 0 else t.2.1 a x) = _
    rw [if_neg (by omega), if_neg (by omega)]; exact h7 x (by omega)
theorem qsP_fresh {a : Nat} (h : 49 ≤ a) (b : Nat) : qsP a b = none := by
  cases e : qsP a b with
  | none => rfl
  | some v => exact absurd (qsP_lt e).1 (by omega)
/-- cells that were there are as they were -/
def KP (n : Nat) (t t' : qT) (D D' : qD) : Prop := ∀ b, b < n → t'.1 b = t.1 b ∧ t'.2.1 b = t.2.1 b ∧ D' b = D b
theorem im.kp {t t' : qT} {a : Nat} (h : im t a) (hn : t.2.2.1 ≤ t'.2.2.1) : im t' a := ⟨Nat.lt_of_lt_of_le h.1 hn, h.2⟩
theorem CO.kp {t t' : qT} {k n : Nat} {D D' : qD} (h : CO t k) (hb : CB t k n) (hk : KP n t t' D D') (hn : t.2.2.1 ≤ t'.2.2.1) : CO t' k := by
  obtain ⟨b0, b1, b2, b3, b4, b5⟩ := hb
  obtain ⟨h0, h1, h2, h3, h4, h5⟩ := h
  unfold CO
  rw [(hk k b0).2.1, (hk k b0).1, (hk _ b1).1, (hk _ b2).1, (hk _ b3).1, (hk _ b4).1, (hk _ b5).1]
  exact ⟨⟨h0.1, h0.2.kp hn⟩, ⟨h1.1, h1.2.1, h1.2.2.kp hn⟩, ⟨h2.1, h2.2.1, h2.2.2.kp hn⟩, ⟨h3.1, h3.2.1, h3.2.2.kp hn⟩, ⟨h4.1, h4.2.1, h4.2.2.kp hn⟩, ⟨h5.1, h5.2.1, h5.2.2.kp hn⟩⟩
theorem CR.kp {t t' : qT} {k n : Nat} {D D' G : qD} (h : CR t D k G) (hb : CB t k n) (hk : KP n t t' D D') : CR t' D' k G := by
  obtain ⟨b0, b1, b2, b3, b4, b5⟩ := hb
  unfold CR
  rw [(hk k b0).2.1, (hk k b0).2.2, (hk _ b1).2.2, (hk _ b2).2.2, (hk _ b3).2.2, (hk _ b4).2.2, (hk _ b5).2.2]
  exact h
theorem CB.kp {t t' : qT} {k n : Nat} {D D' : qD} (h : CB t k n) (hk : KP n t t' D D') : CB t' k n := by
  unfold CB
  rw [(hk k h.1).2.1]
  exact h
theorem CO.cb {t : qT} {k : Nat} (h : CO t k) : CB t k t.2.2.1 := ⟨h.1.2.1, h.2.1.2.2.1, h.2.2.1.2.2.1, h.2.2.2.1.2.2.1, h.2.2.2.2.1.2.2.1, h.2.2.2.2.2.2.2.1⟩
theorem MO.kp {t t' : qT} {a : Nat} {D D' : qD} (h : MO t a) (hk : KP t.2.2.1 t t' D D') (hn : t.2.2.1 ≤ t'.2.2.1) : MO t' a := by
  obtain ⟨h0, hc, h1, h2, h3, h4, h5, h6⟩ := h
  unfold MO
  rw [(hk a h0.2.1).2.1, (hk a h0.2.1).1, (hk _ h1.2.2.1).1, (hk _ h2.2.2.1).1, (hk _ h3.2.2.1).1, (hk _ h4.2.2.1).1, (hk _ h5.2.2.1).1, (hk _ h6.2.2.1).1]
  exact ⟨⟨h0.1, h0.2.kp hn⟩, hc.kp hc.cb hk hn, ⟨h1.1, h1.2.1, h1.2.2.kp hn⟩, ⟨h2.1, h2.2.1, h2.2.2.kp hn⟩, ⟨h3.1, h3.2.1, h3.2.2.kp hn⟩, ⟨h4.1, h4.2.1, h4.2.2.kp hn⟩, ⟨h5.1, h5.2.1, h5.2.2.kp hn⟩, ⟨h6.1, h6.2.1, h6.2.2.kp hn⟩⟩
theorem MR.kp {t t' : qT} {a : Nat} {D D' : qD} {N : Int → Int} (h : MR t D a N) (ho : MO t a) (hk : KP t.2.2.1 t t' D D') : MR t' D' a N := by
  obtain ⟨h0, hc, h1, h2, h3, h4, h5, h6⟩ := ho
  unfold MR
  rw [(hk a h0.2.1).2.1, (hk a h0.2.1).2.2, (hk _ h1.2.2.1).2.2, (hk _ h2.2.2.1).2.2, (hk _ h3.2.2.1).2.2, (hk _ h4.2.2.1).2.2, (hk _ h5.2.2.1).2.2, (hk _ h6.2.2.1).2.2]
  exact h
section KC
variable {S : (Nat → Int32) × Nat} {t : qT} {D G : qD} {Q : Int → qT → qD → Prop} {a k : Nat} {N : Int → Int}
theorem im_new {t : qT} {a i : Nat} (h : 49 ≤ a) (hi : a + i < t.2.2.1) : im t (a + i) := ⟨hi, .inr (by omega)⟩
theorem c25 {l : Nat} (ha : 49 ≤ a) (hn : t.2.2.1 = a + 1) (hT : (t.1 a).1 = 3) (hO : MO t l) (hla : l ≠ a) (hM : MR t D l N)
    (hp : t.2.1 l 1 < a ∧ t.2.1 l 2 < a ∧ t.2.1 l 3 < a ∧ t.2.1 l 4 < a ∧ t.2.1 l 5 < a ∧ t.2.1 l 6 < a) (hB : CB t (t.2.1 l 0) a)
    (q : ∀ t' D', t'.2.2.1 = a + 7 → t'.2.2.2 ≤ t.2.2.2 + 101 → KP a t t' D D' → t'.1 a = t.1 a → MO t' a → ML t' a → t'.2.1 a 0 = t.2.1 l 0 → MR t' D' a N → CB t' (t'.2.1 a 0) a → Q 0 t' D') :
    wp S 25 0 [some (qr a), some (qr l)] [] t D Q := by
  obtain ⟨o0, oc, o1, o2, o3, o4, o5, o6⟩ := id hO
  have hlt : l < a := by have := o0.2.1; omega
  have hfr := fun b : Nat => qsP_fresh ha b
  refine b25_0 (chk_i (by omega) (chk_i o0.1 (chk_i hT (chk_i (hfr 0) ?_))))
  generalize ht0 : ((t.1, upP t.2.1 a 0 (t.2.1 l 0), t.2.2) : qT) = t0
  have e1 : t0.1 = t.1 := by rw [← ht0]
  have e2 : ∀ b, b ≠ a → t0.2.1 b = t.2.1 b := fun b hb => by
    rw [← ht0]; funext y; exact if_neg (fun z => hb z.1)
  have e3 : t0.2.2 = t.2.2 := by rw [← ht0]
  have e0 : t0.2.1 a 0 = t.2.1 l 0 := by rw [← ht0]; exact if_pos ⟨rfl, rfl⟩
  have A0 := AC.zero (t0 := t0) (D0 := D) (sh := fun i => t.1 (t.2.1 l i)) (rw := fun i => D (t.2.1 l i)) (show t0.2.2.1 = a + 1 by rw [e3]; exact hn)
  have key : ∀ {j : Int} {s : Nat} {u : qT} {E : qD}, AC t0 D a (fun i => t.1 (t.2.1 l i)) (fun i => D (t.2.1 l i)) j s u E → (u.1 l).1 = 3 ∧ (∀ i, t.2.1 l i < a → u.1 (u.2.1 l i) = t.1 (t.2.1 l i) ∧ E (u.2.1 l i) = D (t.2.1 l i)) ∧ (∀ K, ((nwT u.1 u.2.2.1 K) a).1 = 3) ∧ ∀ K, nwT u.1 u.2.2.1 K u.2.2.1 = K := fun {j s u E} A => by
    obtain ⟨⟨h0, h1, h2⟩, h3, h4, h5, h6, h7⟩ := A
    refine ⟨by rw [h3 l (by omega), e1]; exact o0.1, fun i hi => ?_, fun K => ?_, fun K => nwT_s⟩
    · rw [h4 l hlt, e2 l hla, h3 _ (by omega), e1, h5 _ (by omega)]; exact ⟨rfl, rfl⟩
    · show (if a = u.2.2.1 then K else u.1 a).1 = 3
      rw [if_neg (by omega), h3 a (Nat.le_refl _), e1]; exact hT
  have s0 : t0.2.2.2 = t.2.2.2 := by rw [e3]
  have st6 : ∀ u E, AC t0 D a (fun i => t.1 (t.2.1 l i)) (fun i => D (t.2.1 l i)) 6 (t.2.2.2 + 101) u E → wp S 25 96 [some (qr a), some (qr l)] [] u E Q := fun u E A => by
    have k := key A
    obtain ⟨⟨h0, h1, h2⟩, h3, h4, h5, h6, h7⟩ := A
    have ua : (u.1 a).1 = 3 := by rw [h3 a (Nat.le_refl _), e1]; exact hT
    refine b25_96 (chk_i k.1 (chk_i ua (b25_104 (chk_i k.1 (chk_i ua ?_)))))
    have p1 := h6 1 (by omega) (by omega)
    have p2 := h6 2 (by omega) (by omega)
    have p3 := h6 3 (by omega) (by omega)
    have p4 := h6 4 (by omega) (by omega)
    have p5 := h6 5 (by omega) (by omega)
    have p6 := h6 6 (by omega) (by omega)
    have p0 := h7 0 (by omega)
    rw [e0] at p0
    have c1 : (1 : Int).toNat = 1 := rfl
    have c2 : (2 : Int).toNat = 2 := rfl
    have c3 : (3 : Int).toNat = 3 := rfl
    have c4 : (4 : Int).toNat = 4 := rfl
    have c5 : (5 : Int).toNat = 5 := rfl
    have c6 : (6 : Int).toNat = 6 := rfl
    rw [c1] at p1; rw [c2] at p2; rw [c3] at p3; rw [c4] at p4; rw [c5] at p5; rw [c6] at p6
    have h1 : u.2.2.1 = a + 7 := h1
    have hkp : KP a t u D E := fun b hb => ⟨by rw [h3 b (by omega), e1], by rw [h4 b hb, e2 b (by omega)], h5 b (by omega)⟩
    have hE : ∀ b, b ≠ a → (up (up E a 7 (E l 7)) a 8 ((up E a 7 (E l 7)) l 8)) b = E b := fun b hb => by rw [up_eq, up_eq, upr_n hb, upr_n hb]
    have hkp2 : KP a t u D (up (up E a 7 (E l 7)) a 8 ((up E a 7 (E l 7)) l 8)) := fun b hb => ⟨(hkp b hb).1, (hkp b hb).2.1, by rw [hE b (by omega)]; exact (hkp b hb).2.2⟩
    have hle : t.2.2.1 ≤ u.2.2.1 := by omega
    refine q u _ h1 h2 hkp2 (by rw [h3 a (Nat.le_refl _), e1]) ?_ ⟨p1.1, p2.1, p3.1, p4.1, p5.1, p6.1⟩ p0 ?_ (by rw [p0]; exact hB.kp hkp)
    · unfold MO
      rw [p0, p1.1, p2.1, p3.1, p4.1, p5.1, p6.1, p1.2.1, p2.2.1, p3.2.1, p4.2.1, p5.2.1, p6.2.1]
      exact ⟨⟨ua, by omega, .inr ha⟩, oc.kp hB hkp hle, ⟨o1.1, o1.2.1, im_new ha (by omega)⟩, ⟨o2.1, o2.2.1, im_new ha (by omega)⟩, ⟨o3.1, o3.2.1, im_new ha (by omega)⟩, ⟨o4.1, o4.2.1, im_new ha (by omega)⟩, ⟨o5.1, o5.2.1, im_new ha (by omega)⟩, ⟨o6.1, o6.2.1, im_new ha (by omega)⟩⟩
    · obtain ⟨m1, m2, m3, m4, m5, m6, m7, m8⟩ := hM
      have El : E l = D l := h5 l (by omega)
      have r7 : up (up E a 7 (E l 7)) a 8 ((up E a 7 (E l 7)) l 8) a 7 = D l 7 := by
        rw [up_eq, up_eq, upr_s, upr_s, ui_n (by decide), ui_s, El]
      have r8 : up (up E a 7 (E l 7)) a 8 ((up E a 7 (E l 7)) l 8) a 8 = D l 8 := by
        rw [up_eq, up_eq, upr_s, upr_s, ui_s, upr_n hla, El]
      unfold MR
      rw [p1.1, p2.1, p3.1, p4.1, p5.1, p6.1, r7, r8, hE _ (by omega), hE _ (by omega), hE _ (by omega), hE _ (by omega), hE _ (by omega), hE _ (by omega), p1.2.2, p2.2.2, p3.2.2, p4.2.2, p5.2.2, p6.2.2]
      exact ⟨m1, m2, m3, m4, m5, m6, m7, m8⟩
  have st5 : ∀ u E, AC t0 D a (fun i => t.1 (t.2.1 l i)) (fun i => D (t.2.1 l i)) 5 (t.2.2.2 + 77) u E → wp S 25 82 [some (qr a), some (qr l)] [] u E Q := fun u E A => by
    have k := key A
    have f := k.2.1 6 hp.2.2.2.2.2
    have w : (u.1 (u.2.1 l 6)).2.toNat = 24 := by rw [f.1, o6.2.1]; rfl
    exact b25_82 (chk_i k.1 (chk_i (by rw [f.1]; exact o6.1) (chk_i (by rw [k.2.2.2, f.1]; exact o6.1) (chk_i (k.2.2.1 _) (chk_i (hfr 6) (st6 _ _ (A.step rfl f.1 f.2 (by rw [w]; omega))))))))
  have st4 : ∀ u E, AC t0 D a (fun i => t.1 (t.2.1 l i)) (fun i => D (t.2.1 l i)) 4 (t.2.2.2 + 29) u E → wp S 25 68 [some (qr a), some (qr l)] [] u E Q := fun u E A => by
    have k := key A
    have f := k.2.1 5 hp.2.2.2.2.1
    have w : (u.1 (u.2.1 l 5)).2.toNat = 48 := by rw [f.1, o5.2.1]; rfl
    exact b25_68 (chk_i k.1 (chk_i (by rw [f.1]; exact o5.1) (chk_i (by rw [k.2.2.2, f.1]; exact o5.1) (chk_i (k.2.2.1 _) (chk_i (hfr 5) (st5 _ _ (A.step rfl f.1 f.2 (by rw [w]; omega))))))))
  have st3 : ∀ u E, AC t0 D a (fun i => t.1 (t.2.1 l i)) (fun i => D (t.2.1 l i)) 3 (t.2.2.2 + 21) u E → wp S 25 54 [some (qr a), some (qr l)] [] u E Q := fun u E A => by
    have k := key A
    have f := k.2.1 4 hp.2.2.2.1
    have w : (u.1 (u.2.1 l 4)).2.toNat = 8 := by rw [f.1, o4.2.1]; rfl
    exact b25_54 (chk_i k.1 (chk_i (by rw [f.1]; exact o4.1) (chk_i (by rw [k.2.2.2, f.1]; exact o4.1) (chk_i (k.2.2.1 _) (chk_i (hfr 4) (st4 _ _ (A.step rfl f.1 f.2 (by rw [w]; omega))))))))
  have st2 : ∀ u E, AC t0 D a (fun i => t.1 (t.2.1 l i)) (fun i => D (t.2.1 l i)) 2 (t.2.2.2 + 13) u E → wp S 25 40 [some (qr a), some (qr l)] [] u E Q := fun u E A => by
    have k := key A
    have f := k.2.1 3 hp.2.2.1
    have w : (u.1 (u.2.1 l 3)).2.toNat = 8 := by rw [f.1, o3.2.1]; rfl
    exact b25_40 (chk_i k.1 (chk_i (by rw [f.1]; exact o3.1) (chk_i (by rw [k.2.2.2, f.1]; exact o3.1) (chk_i (k.2.2.1 _) (chk_i (hfr 3) (st3 _ _ (A.step rfl f.1 f.2 (by rw [w]; omega))))))))
  have st1 : ∀ u E, AC t0 D a (fun i => t.1 (t.2.1 l i)) (fun i => D (t.2.1 l i)) 1 (t.2.2.2 + 9) u E → wp S 25 26 [some (qr a), some (qr l)] [] u E Q := fun u E A => by
    have k := key A
    have f := k.2.1 2 hp.2.1
    have w : (u.1 (u.2.1 l 2)).2.toNat = 4 := by rw [f.1, o2.2.1]; rfl
    exact b25_26 (chk_i k.1 (chk_i (by rw [f.1]; exact o2.1) (chk_i (by rw [k.2.2.2, f.1]; exact o2.1) (chk_i (k.2.2.1 _) (chk_i (hfr 2) (st2 _ _ (A.step rfl f.1 f.2 (by rw [w]; omega))))))))
  have st0 : ∀ u E, AC t0 D a (fun i => t.1 (t.2.1 l i)) (fun i => D (t.2.1 l i)) 0 (t.2.2.2 + 0) u E → wp S 25 12 [some (qr a), some (qr l)] [] u E Q := fun u E A => by
    have k := key A
    have f := k.2.1 1 hp.1
    have w : (u.1 (u.2.1 l 1)).2.toNat = 9 := by rw [f.1, o1.2.1]; rfl
    exact b25_12 (chk_i k.1 (chk_i (by rw [f.1]; exact o1.1) (chk_i (by rw [k.2.2.2, f.1]; exact o1.1) (chk_i (k.2.2.1 _) (chk_i (hfr 1) (st1 _ _ (A.step rfl f.1 f.2 (by rw [w]; omega))))))))
  exact st0 _ _ (by rw [← s0]; exact A0)
end KC
end
section
/-! ## the class: going back, thrown -/
theorem sReg_eq {sv M N : Int → Int} {n n' r v : Int} (hs : sAt M n = sAt N n') (h0 : M (sAt N n') = N (sAt N n')) (h1 : M (sAt N n' + 1) = N (sAt N n' + 1))
    (h2 : ¬ sv (40 * N (sAt N n') + 4 * N (sAt N n' + 1) + r) = -1 → M (sAt N n' + 2 + sv (40 * N (sAt N n') + 4 * N (sAt N n' + 1) + r)) = N (sAt N n' + 2 + sv (40 * N (sAt N n') + 4 * N (sAt N n' + 1) + r))) : sReg sv M n r v = sReg sv N n' r v := by
  unfold sReg sCell
  rw [hs, h0, h1]
  by_cases c : sv (40 * N (sAt N n') + 4 * N (sAt N n' + 1) + r) = -1
  · rw [if_pos c, if_pos c]
  · rw [if_neg c, if_neg c, h2 c]
section KD
variable {S : (Nat → Int32) × Nat} {t : qT} {D G : qD} {Q : Int → qT → qD → Prop} {a k : Nat} {N : Int → Int}
theorem sReg_R (hC : CVd G) (hV : RVd (G 28 14) N) (h13 : 1 ≤ N 13) {r v : Int} (hr : 0 ≤ r ∧ r < 4) (hv : qR v) : qR (sReg (G 34) N 0 r v) := by
  have ha := sAt_r hV (Int.le_refl 0) (by omega)
  have h1 := hC.1
  unfold sReg
  split
  · exact hv
  · have := hC.2.2.2.1 (40 * N (sAt N 0) + 4 * N (sAt N 0 + 1) + r) (by omega) (by omega)
    unfold sCell at *
    exact hV.2.2.2.2 _ (by omega) (by omega)
theorem RVd.cpf {nf : Int} {g : Int → Int} {hi : Int} (hV : RVd nf N) (hh : hi ≤ 13) (hg : ∀ i, 9 ≤ i → i < 13 → qR (g i)) : RVd nf (cpf N g 9 hi) := by
  obtain ⟨h1, h3, h4, h5, h6⟩ := hV
  refine ⟨?_, fun l x y => ?_, fun k x y => ?_, ?_, fun k x y => ?_⟩
  · rw [cpf_n (by omega)]; exact h1
  · rw [cpf_n (by omega)] at y
    rw [cpf_n (by omega), cpf_n (by omega)]; exact h3 l x y
  · rw [cpf_n (by omega)]; exact h4 k x y
  · rw [cpf_n (by omega)]; exact h5
  · by_cases c : 9 ≤ k ∧ k < hi
    · rw [cpf_y c]; exact hg k c.1 (by omega)
    · rw [cpf_n c]; exact h6 k x y
theorem c31_11 (hO : MO t a) (hL : ML t a) (hB : CB t (t.2.1 a 0) a) (hC : CVd G) (hV : RVd (G 28 14) N) (h13 : 1 ≤ N 13) :
    ∀ (m : Nat) (j : Int) (D : qD), j + m = 4 → 0 ≤ j → CR t D (t.2.1 a 0) G → MR t D a (cpf N (fun i => sReg (G 34) N 0 (i - 9) (N i)) 9 (9 + j)) →
    (∀ D', MR t D' a (sBack (G 34) N) → FR a D D' → Q 0 t D') → wp S 31 11 [some (qr a), some (qi j)] [] t D Q := by
  obtain ⟨o0, oc, o1, o2, o3, o4, o5, o6⟩ := id hO
  obtain ⟨l1, l2, l3, l4, l5, l6⟩ := id hL
  have h8 := hV.1
  have h1 := hC.1
  have ha := sAt_r hV (Int.le_refl 0) (by omega)
  intro m
  induction m with
  | zero =>
    intro j D hm hj hK hM q
    obtain rfl : j = 4 := by omega
    refine b31_11 (chk_i (by omega) (ite_i (fun c => absurd c (by omega)) fun c => chk_i o0.1 (chk_i o0.1 ?_)))
    have e7 := hM.2.2.1
    rw [cpf_n (by omega)] at e7
    rw [e7]
    exact q _ (hM.w_fr hL) (FR.up (by omega))
  | succ m ih =>
    intro j D hm hj hK hM q
    have e7 := hM.2.2.1
    rw [cpf_n (by omega)] at e7
    have er := hM.2.1 j hj (by omega)
    rw [cpf_n (by omega)] at er
    refine b31_11 (chk_i (by omega) (ite_i (fun c => chk_i o0.1 (chk_i o0.1 (chk_i o0.1 (chk_i o2.1 (chk_i (by omega) (chk_i o0.1 ?_)))))) fun c => absurd c (by omega)))
    rw [e7, er]
    have e13 : cpf N (fun i => sReg (G 34) N 0 (i - 9) (N i)) 9 (9 + j) 13 = N 13 := cpf_n (by omega)
    refine c32 hO hM hK hC (hV.cpf (by omega) fun i x y => sReg_R hC hV h13 (by omega) (hV.2.2.2.2 i (by omega) (by omega))) (by rw [e13]; omega) (by omega) ?_
    have es : sAt (cpf N (fun i => sReg (G 34) N 0 (i - 9) (N i)) 9 (9 + j)) (N 13 - 1 - (N 13 - 1)) = sAt N 0 := sAt_d (by rw [e13]; omega)
    have hc := hC.2.2.2.1 (40 * N (sAt N 0) + 4 * N (sAt N 0 + 1) + j) (by omega) (by omega)
    have ev : sReg (G 34) (cpf N (fun i => sReg (G 34) N 0 (i - 9) (N i)) 9 (9 + j)) (N 13 - 1 - (N 13 - 1)) j (N (9 + j)) = (fun i => sReg (G 34) N 0 (i - 9) (N i)) (9 + j) := by
      show _ = sReg (G 34) N 0 (9 + j - 9) (N (9 + j))
      rw [show 9 + j - 9 = j by omega]
      exact sReg_eq es (cpf_n (by omega)) (cpf_n (by omega)) fun c => cpf_n (by omega)
    rw [e13, ev]
    refine chk_i o2.1 (chk_i (by omega) ?_)
    have f1 : FR a D (up D (t.2.1 a 2) j ((fun i => sReg (G 34) N 0 (i - 9) (N i)) (9 + j))) := FR.up (by omega)
    refine ih (j + 1) _ (by omega) (by omega) (hK.fr hB f1) ?_ fun D' h2 h3 => q D' h2 (f1.trans h3)
    have := hM.w_rg (v := (fun i => sReg (G 34) N 0 (i - 9) (N i)) (9 + j)) hL (i := j) (by omega)
    rw [cpf_s (by omega), show 9 + j + 1 = 9 + (j + 1) by omega] at this
    exact this
theorem c31 (hO : MO t a) (hL : ML t a) (hB : CB t (t.2.1 a 0) a) (hC : CVd G) (hV : RVd (G 28 14) N) (h13 : 1 ≤ N 13) (hK : CR t D (t.2.1 a 0) G) (hM : MR t D a N)
    (q : ∀ D', MR t D' a (sBack (G 34) N) → FR a D D' → Q 0 t D') : wp S 31 0 [some (qr a), none] [] t D Q := by
  have e7 := hM.2.2.1
  have h8 := hV.1
  refine b31_0 (chk_i hO.1.1 (chk_i (by omega) (ite_i (fun c => absurd c (by omega)) fun c => ?_)))
  exact c31_11 hO hL hB hC hV h13 4 0 D rfl (Int.le_refl _) hK (by rw [show (9 + 0 : Int) = 9 from rfl, cpf_0]; exact hM) q
theorem c38_10 {ty bef : Int} (hO : MO t a) (hL : ML t a) (hB : CB t (t.2.1 a 0) a) (hC : CVd G) (ht : 0 ≤ ty ∧ ty ≤ 4) (hb0 : 0 ≤ bef) :
    ∀ (m : Nat) (p : Int) (D : qD) (N : Int → Int), p + m = 3 → 0 ≤ p → RVd (G 28 14) N → 1 ≤ N 13 → N 78 + m ≤ 24 → bef ≤ G 38 (N (sAt N 0)) → CR t D (t.2.1 a 0) G → MR t D a N →
    (∀ D', MR t D' a (sFin (G 40) ty bef m p N) → FR a D D' → Q 0 t D') → wp S 38 10 [some (qr a), some (qi bef), some (qi ty), some (qi (N 13 - 1)), some (qi p)] [] t D Q := by
  obtain ⟨o0, oc, o1, o2, o3, o4, o5, o6⟩ := id hO
  obtain ⟨l1, l2, l3, l4, l5, l6⟩ := id hL
  have h1 := hC.1
  intro m
  induction m with
  | zero =>
    intro p D N hm hp hV h13 h78 hb hK hM q
    have ha := sAt_r hV (Int.le_refl 0) (by omega)
    have h2 := hC.2.1 _ ha.2.1.1 ha.2.1.2
    exact b38_10 (chk_i (by omega) (chk_i (by omega) (ite_i (fun c => absurd c (by omega)) fun c => q D hM FR.rfl')))
  | succ m ih =>
    intro p D N hm hp hV h13 h78 hb hK hM q
    have ha := sAt_r hV (Int.le_refl 0) (by omega)
    have h2 := hC.2.1 _ ha.2.1.1 ha.2.1.2
    have h8 := hV.1
    have h4 := hV.2.2.2.1
    have e8 := hM.2.2.2.2.2.2.1
    have es : sAt N 0 = 14 + 8 * (N 13 - 1) := by unfold sAt; omega
    have e3 := hM.2.2.2.1 (N 13 - 1) (by omega) (by omega)
    unfold sFin at q
    rw [es] at q
    refine b38_10 (chk_i (by omega) (chk_i (by omega) (ite_i (fun c => ?_) fun c => ?_)))
    · rw [if_pos c] at q
      rw [es] at hb
      have hr := sDA_r (G 40) N (N (14 + 8 * (N 13 - 1))) p (N (14 + 8 * (N 13 - 1) + 1)) ty
      refine chk_i o0.1 (chk_i o0.1 (chk_i o6.1 (chk_i (by omega) (chk_i (by omega) (ite_i (fun c2 => ?_) fun c2 => absurd c2 (by omega))))))
      refine chk_i o0.1 (c35 hO hM hK hC hV (by omega) ⟨hp, by omega⟩ ht ?_)
      refine chk_i (by omega) (ite_i (fun c3 => ?_) fun c3 => ?_)
      · rw [if_pos c3] at q
        rw [e3, e8]
        have e9 : up D (t.2.1 a 6) (N 78) (10 * N (14 + 8 * (N 13 - 1)) + p) a 8 = N 78 := by rw [up_eq, upr_n (by omega)]; exact e8
        rw [e9]
        refine chk_i o0.1 (chk_i o0.1 (chk_i o0.1 (chk_i o3.1 (chk_i (by omega) (chk_i o6.1 (chk_i (by omega) (chk_i o0.1 (chk_i o0.1 ?_))))))))
        have f1 : FR a D (up D (t.2.1 a 6) (N 78) (10 * N (14 + 8 * (N 13 - 1)) + p)) := FR.up (by omega)
        have f2 : FR a (up D (t.2.1 a 6) (N 78) (10 * N (14 + 8 * (N 13 - 1)) + p)) (up (up D (t.2.1 a 6) (N 78) (10 * N (14 + 8 * (N 13 - 1)) + p)) a 8 (N 78 + 1)) := FR.up (by omega)
        have f3 := f1.trans f2
        have hM1 := (hM.w_dn (v := 10 * N (14 + 8 * (N 13 - 1)) + p) hL (i := N 78) (by omega)).w_fc (v := N 78 + 1) hL
        have hV' := hV.fin (x := 10 * N (14 + 8 * (N 13 - 1)) + p) (by omega) (by rw [es] at ha; omega)
        have e13 : ui (ui N (79 + N 78) (10 * N (14 + 8 * (N 13 - 1)) + p)) 78 (N 78 + 1) 13 = N 13 := by rw [ui_n (by omega), ui_n (by omega)]
        have := ih (p + 1) _ (ui (ui N (79 + N 78) (10 * N (14 + 8 * (N 13 - 1)) + p)) 78 (N 78 + 1)) (by omega) (by omega) hV' (by rw [e13]; exact h13) (by rw [ui_s]; omega) ?_ (hK.fr hB f3) hM1 fun D' h5 h6 => q D' h5 (f3.trans h6)
        · rw [e13] at this
          exact this
        · rw [sAt_ui (by decide), sAt_ui (by omega), es, ui_n (by omega), ui_n (by omega)]; exact hb
      · rw [if_neg c3] at q
        exact ih (p + 1) D N (by omega) (by omega) hV h13 (by omega) (by rw [es]; exact hb) hK hM q
    · rw [if_neg c] at q
      exact q D hM FR.rfl'
theorem c38 {ty bef : Int} (hO : MO t a) (hL : ML t a) (hB : CB t (t.2.1 a 0) a) (hC : CVd G) (ht : 0 ≤ ty ∧ ty ≤ 4) (hb0 : 0 ≤ bef) (hV : RVd (G 28 14) N) (h13 : 1 ≤ N 13) (h78 : N 78 ≤ 21) (hb : bef ≤ G 38 (N (sAt N 0))) (hK : CR t D (t.2.1 a 0) G) (hM : MR t D a N)
    (q : ∀ D', MR t D' a (sFin (G 40) ty bef 3 0 N) → FR a D D' → Q 0 t D') : wp S 38 0 [some (qr a), some (qi bef), some (qi ty), none, none] [] t D Q := by
  refine b38_0 (chk_i hO.1.1 ?_)
  rw [hM.2.2.1]
  exact c38_10 hO hL hB hC ht hb0 3 0 D N rfl (Int.le_refl _) hV h13 (by omega) hb hK hM q
theorem c37_25 {ty c cp : Int} (hO : MO t a) (hL : ML t a) (hB : CB t (t.2.1 a 0) a) (hC : CVd G) (ht : 0 ≤ ty ∧ ty ≤ 4) (hc : 0 ≤ c ∧ c ≤ 7) (hcp : 0 ≤ cp ∧ cp < 3) :
    ∀ (m : Nat) (n : Int) (D : qD) (N : Int → Int), n + m = c → 0 ≤ n → RVd (G 28 14) N → m < N 13 → N 78 ≤ 3 * n → cp < G 38 (N (sAt N m)) → CR t D (t.2.1 a 0) G → MR t D a N →
    (∀ D', MR t D' a (sEnd (G 40) ty cp (sUnw (G 34) (G 38) (G 40) ty m N)) → FR a D D' → Q 0 t D') → wp S 37 25 [some (qr a), some (qi (3 * c + cp)), some (qi ty), some (qi c), some (qi n)] [] t D Q := by
  obtain ⟨o0, oc, o1, o2, o3, o4, o5, o6⟩ := id hO
  obtain ⟨l1, l2, l3, l4, l5, l6⟩ := id hL
  have h1 := hC.1
  have em : (3 * c + cp) % 3 = cp := by omega
  intro m
  induction m with
  | zero =>
    intro n D N hm hn hV h13 h78 hcp2 hK hM q
    have ha := sAt_r hV (Int.le_refl 0) (by omega)
    have h2 := hC.2.1 _ ha.2.1.1 ha.2.1.2
    have h8 := hV.1
    have hcp2 : cp < G 38 (N (sAt N 0)) := hcp2
    have hf := sFin_r (ty := ty) (bef := cp) (pd := G 40) h1.2 (by omega) 3 0 N (Int.le_refl _) hV (by omega) (by omega)
    have e13 := hf.2.1 13 (by omega)
    have es : sAt N 0 = 14 + 8 * (N 13 - 1) := by unfold sAt; omega
    have es2 : sAt (sFin (G 40) ty cp 3 0 N) 0 = sAt N 0 := sAt_d (by rw [e13])
    refine b37_25 (chk_i (by omega) (chk_i (by omega) (ite_i (fun h => absurd h (by omega)) fun h => chk_i (by omega) (chk_i o0.1 ?_))))
    rw [em]
    refine c38 hO hL hB hC ht hcp.1 hV (by omega) (by omega) (by omega) hK hM fun D' h5 h6 => ?_
    have e7 := h5.2.2.1
    have e3 := h5.2.2.2.1 (N 13 - 1) (by omega) (by omega)
    rw [e13] at e7
    rw [← es, hf.2.1 _ (by omega)] at e3
    rw [e7, e3]
    refine chk_i o0.1 (chk_i o0.1 (chk_i o0.1 (chk_i o0.1 (chk_i o0.1 (chk_i o3.1 (chk_i (by omega) (chk_i (by omega) (chk_i oc.1.1 (c5 oc (by omega) ?_)))))))))
    have hK' := hK.fr hB h6
    rw [hK'.2.2.2.2.1 _ cp 4 ha.2.1.1 ha.2.1.2 hcp.1 hcp2 (by omega) (by omega)]
    refine chk_i o4.1 (chk_i (by omega) (q _ ?_ (h6.trans (FR.up (by omega)))))
    have := h5.w_ad (v := G 40 (15 * N (sAt N 0) + 5 * cp + 4)) hL (l := N 13 - 1) (by omega)
    rw [← es] at this
    exact this
  | succ m ih =>
    intro n D N hm hn hV h13 h78 hcp2 hK hM q
    have ha := sAt_r hV (Int.le_refl 0) (by omega)
    have h2 := hC.2.1 _ ha.2.1.1 ha.2.1.2
    have h8 := hV.1
    have hu := sUn1_r (ty := ty) hC hV (by omega) (by omega)
    have es : sAt N 0 = 14 + 8 * (N 13 - 1) := by unfold sAt; omega
    have e7 := hM.2.2.1
    have e3 := hM.2.2.2.1 (N 13 - 1) (by omega) (by omega)
    rw [← es] at e3
    refine b37_25 (chk_i (by omega) (chk_i (by omega) (ite_i (fun h => chk_i o0.1 (chk_i o0.1 (chk_i o0.1 (chk_i o3.1 (chk_i (by omega) (chk_i oc.1.1 ?_)))))) fun h => absurd h (by omega))))
    rw [e7, e3]
    refine c3 oc (by omega) ?_
    rw [hK.2.2.2.1 _ ha.2.1.1 ha.2.1.2]
    refine chk_i o0.1 (c38 hO hL hB hC ht h2.2.2.1 hV (by omega) (by omega) (Int.le_refl _) hK hM fun D1 h5 h6 => ?_)
    have hK1 := hK.fr hB h6
    refine chk_i o0.1 (c31 hO hL hB hC hu.1 (by rw [hu.2.2.2.2.2.2]; omega) hK1 h5 fun D2 h7 h9 => ?_)
    have e : sAt (sBack (G 34) (sFin (G 40) ty (G 38 (N (sAt N 0))) 3 0 N)) m = sAt N ((m + 1 : Nat) : Int) := by
      refine sAt_d ?_; rw [hu.2.2.1]; omega
    have hb : 14 ≤ sAt N ((m + 1 : Nat) : Int) ∧ sAt N ((m + 1 : Nat) : Int) < 78 := by unfold sAt; omega
    refine ih (n + 1) D2 _ (by omega) (by omega) hu.2.1 ?_ ?_ ?_ (hK1.fr hB h9) h7 fun D' h10 h11 => q D' h10 ((h6.trans h9).trans h11)
    · rw [hu.2.2.1]; omega
    · have := hu.2.2.2.2.1; omega
    · rw [e, hu.2.2.2.1 _ hb.1 hb.2]; exact hcp2
theorem c37 {ty c cp : Int} (hO : MO t a) (hL : ML t a) (hB : CB t (t.2.1 a 0) a) (hC : CVd G) (ht : 0 ≤ ty ∧ ty ≤ 4) (hV : RVd (G 28 14) N) (hc : 0 ≤ c ∧ c < N 13) (hcp : 0 ≤ cp ∧ cp < 3 ∧ cp < G 38 (N (sAt N c))) (hK : CR t D (t.2.1 a 0) G) (hM : MR t D a N)
    (q : ∀ D', MR t D' a (sRaise (G 34) (G 38) (G 40) N ty c cp) → FR a D D' → Q 0 t D') : wp S 37 0 [some (qr a), some (qi (3 * c + cp)), some (qi ty), none, none] [] t D Q := by
  obtain ⟨l1, l2, l3, l4, l5, l6⟩ := id hL
  have e7 := hM.2.2.1
  have h8 := hV.1
  have ed : (3 * c + cp) / 3 = c := by omega
  refine b37_0 (chk_i (by omega) (chk_i (by omega) (ite_i (fun h => absurd h (by omega)) fun h => ?_)))
  rw [ed, e7]
  refine chk_i hO.1.1 (chk_i (by omega) (chk_i (by omega) (ite_i (fun h2 => chk_i hO.1.1 ?_) fun h2 => absurd hc.2 h2)))
  have f1 : FR a D (up D a 8 0) := FR.up (by omega)
  have hb : 14 ≤ sAt N c ∧ sAt N c < 78 := by unfold sAt; omega
  refine c37_25 hO hL hB hC ht (by omega) ⟨hcp.1, hcp.2.1⟩ c.toNat 0 _ (ui N 78 0) (by omega) (Int.le_refl _) hV.u78 (by rw [ui_n (by omega)]; omega) (by rw [ui_s]; omega) ?_ (hK.fr hB f1) (hM.w_fc hL) fun D' h5 h6 => q D' h5 (f1.trans h6)
  rw [show ((c.toNat : Nat) : Int) = c by omega, sAt_ui (by decide), ui_n (by omega)]
  exact hcp.2.2
/-! how many would finish -/
theorem c36_in {ty n tot : Int} (hO : MO t a) (hM : MR t D a N) (hK : CR t D (t.2.1 a 0) G) (hC : CVd G) (hV : RVd (G 28 14) N) (ht : 0 ≤ ty ∧ ty ≤ 4) (hn : 0 ≤ n ∧ n < N 13) (htot : tot < 24) :
    ∀ (m : Nat) (p fin : Int) (o5 : Option qV), p + m = 3 → 0 ≤ p → (0 ≤ fin ∧ fin ≤ 24 + p) →
    ((sLp (G 38) (G 40) N n ty m p fin).1 = -1 → 3 * n + 3 ≤ tot ∧ ∀ o5, wp S 36 5 [some (qr a), some (qi tot), some (qi ty), some (qi (sLp (G 38) (G 40) N n ty m p fin).2), some (qi (3 * n + 3)), o5] [] t D Q) →
    (¬ (sLp (G 38) (G 40) N n ty m p fin).1 = -1 → tot = 3 * n + (sLp (G 38) (G 40) N n ty m p fin).1 ∧ Q (sLp (G 38) (G 40) N n ty m p fin).2 t D) →
    wp S 36 5 [some (qr a), some (qi tot), some (qi ty), some (qi fin), some (qi (3 * n + p)), o5] [] t D Q := by
  have h8 := hV.1
  have hl2 := hV.2.1 (N 13 - 1 - n) (by omega) (by omega)
  have h1 := hC.1
  have h2 := hC.2.1 _ hl2.1 hl2.2.1
  have e7 := hM.2.2.1
  have e3 := hM.2.2.2.1 (N 13 - 1 - n) (by omega) (by omega)
  have e5 := hK.2.2.2.1 _ hl2.1 hl2.2.1
  have ea : sAt N n = 14 + 8 * (N 13 - 1 - n) := rfl
  obtain ⟨o0, oc, o1, o2, o3, o4, o5', o6⟩ := id hO
  intro m
  induction m with
  | zero =>
    intro p fin o5 hm hp hf q1 q2
    obtain rfl : p = 3 := by omega
    exact (q1 rfl).2 _
  | succ m ih =>
    intro p fin o5 hm hp hf q1 q2
    have hr := sDA_r (G 40) N (N (14 + 8 * (N 13 - 1 - n))) p (N (14 + 8 * (N 13 - 1 - n) + 1)) ty
    have hrr := sLp_r (G 38) (G 40) N n ty (m + 1) p fin (by omega) hp hf.1
    have es : sLp (G 38) (G 40) N n ty (m + 1) p fin = if p < G 38 (N (sAt N n)) then
      (if sDA (G 40) N (N (sAt N n)) p (N (sAt N n + 1)) ty = 1 then (p, fin)
       else if sDA (G 40) N (N (sAt N n)) p (N (sAt N n + 1)) ty = 2 then sLp (G 38) (G 40) N n ty m (p + 1) (fin + 1)
       else sLp (G 38) (G 40) N n ty m (p + 1) fin)
      else (-1, fin) := rfl
    have hlt : 3 * n + p < tot ∨ (3 * n + p = tot ∧ Q fin t D) := by
      by_cases c : (sLp (G 38) (G 40) N n ty (m + 1) p fin).1 = -1
      · have := (q1 c).1; omega
      · have h9 := q2 c
        by_cases c2 : p < G 38 (N (sAt N n))
        · rw [if_pos c2] at es
          by_cases c3 : sDA (G 40) N (N (sAt N n)) p (N (sAt N n + 1)) ty = 1
          · rw [if_pos c3] at es
            rw [es] at h9
            exact .inr ⟨h9.1.symm, h9.2⟩
          · rw [if_neg c3] at es
            left
            have hr1 := sLp_r (G 38) (G 40) N n ty m (p + 1) (fin + 1) (by omega) (by omega) (by omega)
            have hr2 := sLp_r (G 38) (G 40) N n ty m (p + 1) fin (by omega) (by omega) (by omega)
            by_cases c4 : sDA (G 40) N (N (sAt N n)) p (N (sAt N n + 1)) ty = 2
            · rw [if_pos c4] at es; rw [es] at h9 c; omega
            · rw [if_neg c4] at es; rw [es] at h9 c; omega
        · rw [if_neg c2] at es
          rw [es] at c
          exact absurd rfl c
    rw [ea] at es
    rcases hlt with hlt | ⟨heq, hQ⟩
    · have hnot : p < G 38 (N (14 + 8 * (N 13 - 1 - n))) → ¬ sDA (G 40) N (N (14 + 8 * (N 13 - 1 - n))) p (N (14 + 8 * (N 13 - 1 - n) + 1)) ty = 1 := fun c2 c3 => by
        rw [if_pos c2, if_pos c3] at es
        have := q2 (by rw [es]; show ¬ p = -1; omega)
        rw [es] at this
        have := this.1
        omega
      have ed : (3 * n + p) / 3 = n := by omega
      have em : (3 * n + p) % 3 = p := by omega
      refine b36_5 (chk_i (by omega) (chk_i (by omega) (ite_i (fun _ => chk_i (by omega) (chk_i o0.1 ?_)) fun h => absurd hlt h)))
      rw [ed]
      refine c26 hO ?_
      rw [em, e7, e3]
      refine chk_i (by omega) (chk_i o0.1 (chk_i o0.1 (chk_i o3.1 (chk_i (by omega) (chk_i oc.1.1 (c3 oc (by omega) ?_))))))
      rw [e5]
      refine chk_i (by omega) (chk_i (by omega) (ite_i (fun c => ?_) fun c => ?_))
      · rw [if_pos c, if_neg (hnot c)] at es
        refine chk_i (by omega) (chk_i o0.1 (c35 hO hM hK hC hV (by omega) ⟨hp, c⟩ ht (chk_i (by omega) (ite_i (fun c2 => ?_) fun c2 => ?_))))
        · rw [if_pos c2] at es
          rw [es] at q1 q2
          rw [show 3 * n + p + 1 = 3 * n + (p + 1) by omega]
          exact ih (p + 1) (fin + 1) _ (by omega) (by omega) (by omega) q1 q2
        · rw [if_neg c2] at es
          rw [es] at q1 q2
          rw [show 3 * n + p + 1 = 3 * n + (p + 1) by omega]
          exact ih (p + 1) fin _ (by omega) (by omega) (by omega) q1 q2
      · rw [if_neg c] at es
        have es2 : sLp (G 38) (G 40) N n ty m (p + 1) fin = (-1, fin) := by
          cases m with
          | zero => rfl
          | succ m' =>
            show (if p + 1 < G 38 (N (sAt N n)) then _ else _) = _
            rw [ea, if_neg (by omega)]
        rw [es, ← es2] at q1 q2
        rw [show 3 * n + p + 1 = 3 * n + (p + 1) by omega]
        exact ih (p + 1) fin _ (by omega) (by omega) (by omega) q1 q2
    · exact b36_5 (chk_i (by omega) (chk_i (by omega) (ite_i (fun h => absurd h (by omega)) fun _ => hQ)))
theorem c36_o {ty c cp fr : Int} (hO : MO t a) (hM : MR t D a N) (hK : CR t D (t.2.1 a 0) G) (hC : CVd G) (hV : RVd (G 28 14) N) (ht : 0 ≤ ty ∧ ty ≤ 4) (hc : 0 ≤ c ∧ c < N 13) (hcp : 0 ≤ cp ∧ cp < 3) :
    ∀ (m : Nat) (n fin : Int) (o5 : Option qV), n + m = 8 → 0 ≤ n → (0 ≤ fin ∧ fin ≤ 3 * n) → sLc (G 38) (G 40) N ty m n fin = (c, (cp, fr)) → Q fr t D →
    wp S 36 5 [some (qr a), some (qi (3 * c + cp)), some (qi ty), some (qi fin), some (qi (3 * n)), o5] [] t D Q := by
  have h8 := hV.1
  intro m
  induction m with
  | zero =>
    intro n fin o5 hm hn hf e q
    have : c = -1 := (congrArg Prod.fst e).symm
    omega
  | succ m ih =>
    intro n fin o5 hm hn hf e q
    have e' : (if n < N 13 then (if (sLp (G 38) (G 40) N n ty 3 0 fin).1 = -1 then sLc (G 38) (G 40) N ty m (n + 1) (sLp (G 38) (G 40) N n ty 3 0 fin).2 else (n, sLp (G 38) (G 40) N n ty 3 0 fin)) else (-1, (-1, fin))) = (c, (cp, fr)) := e
    have hp := sLp_r (G 38) (G 40) N n ty 3 0 fin (by omega) (by omega) hf.1
    by_cases h1 : n < N 13
    · rw [if_pos h1] at e'
      have hin := c36_in (S := S) (Q := Q) (n := n) (tot := 3 * c + cp) hO hM hK hC hV ht ⟨hn, h1⟩ (by omega) 3 0 fin o5 rfl (Int.le_refl _) (by omega)
      rw [Int.add_zero] at hin
      refine hin (fun h2 => ?_) fun h2 => ?_
      · rw [if_pos h2] at e'
        have hr := sLc_r (G 38) (G 40) N ty m (n + 1) (sLp (G 38) (G 40) N n ty 3 0 fin).2 (by omega) (by omega) (by omega)
        rw [e'] at hr
        refine ⟨by omega, fun o => ?_⟩
        rw [show 3 * n + 3 = 3 * (n + 1) by omega]
        exact ih (n + 1) _ o (by omega) (by omega) (by omega) e' q
      · rw [if_neg h2] at e'
        have ec : n = c := congrArg Prod.fst e'
        have ep : sLp (G 38) (G 40) N n ty 3 0 fin = (cp, fr) := congrArg Prod.snd e'
        rw [ep]
        exact ⟨by show 3 * c + cp = 3 * n + cp; omega, q⟩
    · rw [if_neg h1] at e'
      have : c = -1 := (congrArg Prod.fst e').symm
      omega
theorem c36 {ty : Int} (hO : MO t a) (hM : MR t D a N) (hK : CR t D (t.2.1 a 0) G) (hC : CVd G) (hV : RVd (G 28 14) N) (ht : 0 ≤ ty ∧ ty ≤ 4) (hc : ¬ (sCat (G 38) (G 40) N ty).1 = -1)
    (q : Q (sCat (G 38) (G 40) N ty).2.2 t D) : wp S 36 0 [some (qr a), some (qi (3 * (sCat (G 38) (G 40) N ty).1 + (sCat (G 38) (G 40) N ty).2.1)), some (qi ty), none, none, none] [] t D Q := by
  have hr := sCat_r (G 38) (G 40) N ty
  refine b36_0 ?_
  have := c36_o (S := S) (Q := Q) (c := (sCat (G 38) (G 40) N ty).1) (cp := (sCat (G 38) (G 40) N ty).2.1) (fr := (sCat (G 38) (G 40) N ty).2.2) hO hM hK hC hV ht (by omega) (by omega) 8 0 0 none rfl (Int.le_refl _) (by omega) rfl q
  exact this
end KD
end
