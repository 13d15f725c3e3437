-- ===== PART A: goes FIRST, ahead of the names: the tables' words, and 'selects' of the private methods out of them =====
/-- a private method of a class that the tables say can be made, by its rows of tables_1 -/
def lw_okq (q : MethodName × Nat) : Prop := (q.1.cls ≠ "java/lang/invoke/MethodHandle" ∧ q.1.cls ≠ "java/lang/invoke/VarHandle") ∧ Cond.instantiable q.1.cls q.2 ∈ tables_1 ∧ Cond.privateMethod q.1 ∈ tables_1 ∧ Cond.instanceMethod q.1 ∈ tables_1
theorem lw_p0 : lw_okq (⟨"RowUnwinder$Reader", "takesOp", "(I)Z"⟩, 7) := ⟨⟨by decide +kernel, by decide +kernel⟩, List.mem_of_getElem? (i := 205) (by decide +kernel), List.mem_of_getElem? (i := 248) (by decide +kernel), List.mem_of_getElem? (i := 249) (by decide +kernel)⟩
theorem lw_p1 : lw_okq (⟨"RowUnwinder$Reader", "takesOpLetter", "(I)Z"⟩, 7) := ⟨⟨by decide +kernel, by decide +kernel⟩, List.mem_of_getElem? (i := 205) (by decide +kernel), List.mem_of_getElem? (i := 252) (by decide +kernel), List.mem_of_getElem? (i := 253) (by decide +kernel)⟩
theorem lw_p2 : lw_okq (⟨"RowUnwinder$Reader", "takesFarther", "(I)Z"⟩, 7) := ⟨⟨by decide +kernel, by decide +kernel⟩, List.mem_of_getElem? (i := 205) (by decide +kernel), List.mem_of_getElem? (i := 256) (by decide +kernel), List.mem_of_getElem? (i := 257) (by decide +kernel)⟩
theorem lw_p3 : lw_okq (⟨"RowUnwinder$Reader", "takesDigit", "(IIII)Z"⟩, 7) := ⟨⟨by decide +kernel, by decide +kernel⟩, List.mem_of_getElem? (i := 205) (by decide +kernel), List.mem_of_getElem? (i := 260) (by decide +kernel), List.mem_of_getElem? (i := 261) (by decide +kernel)⟩
theorem lw_p4 : lw_okq (⟨"RowUnwinder$Reader", "takesBetweenPads", "(I)Z"⟩, 7) := ⟨⟨by decide +kernel, by decide +kernel⟩, List.mem_of_getElem? (i := 205) (by decide +kernel), List.mem_of_getElem? (i := 264) (by decide +kernel), List.mem_of_getElem? (i := 265) (by decide +kernel)⟩
theorem lw_p5 : lw_okq (⟨"RowUnwinder$Reader", "beginFunction", "()V"⟩, 7) := ⟨⟨by decide +kernel, by decide +kernel⟩, List.mem_of_getElem? (i := 205) (by decide +kernel), List.mem_of_getElem? (i := 268) (by decide +kernel), List.mem_of_getElem? (i := 269) (by decide +kernel)⟩
theorem lw_p6 : lw_okq (⟨"RowUnwinder$Scribe", "writeProgram", "(I)V"⟩, 8) := ⟨⟨by decide +kernel, by decide +kernel⟩, List.mem_of_getElem? (i := 283) (by decide +kernel), List.mem_of_getElem? (i := 318) (by decide +kernel), List.mem_of_getElem? (i := 319) (by decide +kernel)⟩
theorem lw_p7 : lw_okq (⟨"RowUnwinder$Scribe", "writeOp", "(I)V"⟩, 8) := ⟨⟨by decide +kernel, by decide +kernel⟩, List.mem_of_getElem? (i := 283) (by decide +kernel), List.mem_of_getElem? (i := 326) (by decide +kernel), List.mem_of_getElem? (i := 327) (by decide +kernel)⟩
theorem lw_p8 : lw_okq (⟨"RowUnwinder$Scribe", "writeRowsTo", "(II)V"⟩, 8) := ⟨⟨by decide +kernel, by decide +kernel⟩, List.mem_of_getElem? (i := 283) (by decide +kernel), List.mem_of_getElem? (i := 335) (by decide +kernel), List.mem_of_getElem? (i := 336) (by decide +kernel)⟩
theorem lw_p9 : lw_okq (⟨"RowUnwinder$Scribe", "save", "(III)V"⟩, 8) := ⟨⟨by decide +kernel, by decide +kernel⟩, List.mem_of_getElem? (i := 283) (by decide +kernel), List.mem_of_getElem? (i := 343) (by decide +kernel), List.mem_of_getElem? (i := 344) (by decide +kernel)⟩
theorem lw_p10 : lw_okq (⟨"RowUnwinder$Scribe", "free", "(I)V"⟩, 8) := ⟨⟨by decide +kernel, by decide +kernel⟩, List.mem_of_getElem? (i := 283) (by decide +kernel), List.mem_of_getElem? (i := 352) (by decide +kernel), List.mem_of_getElem? (i := 353) (by decide +kernel)⟩
theorem lw_p11 : lw_okq (⟨"RowUnwinder$Scribe", "rememberOrGoBack", "(I)V"⟩, 8) := ⟨⟨by decide +kernel, by decide +kernel⟩, List.mem_of_getElem? (i := 283) (by decide +kernel), List.mem_of_getElem? (i := 356) (by decide +kernel), List.mem_of_getElem? (i := 357) (by decide +kernel)⟩
theorem lw_p12 : lw_okq (⟨"RowUnwinder$Scribe", "writePads", "(I)V"⟩, 8) := ⟨⟨by decide +kernel, by decide +kernel⟩, List.mem_of_getElem? (i := 283) (by decide +kernel), List.mem_of_getElem? (i := 363) (by decide +kernel), List.mem_of_getElem? (i := 364) (by decide +kernel)⟩
theorem lw_p13 : lw_okq (⟨"RowUnwinder", "isFunction", "(I)Z"⟩, 8) := ⟨⟨by decide +kernel, by decide +kernel⟩, List.mem_of_getElem? (i := 15) (by decide +kernel), List.mem_of_getElem? (i := 384) (by decide +kernel), List.mem_of_getElem? (i := 385) (by decide +kernel)⟩
theorem lw_p14 : lw_okq (⟨"RowUnwinder", "isPad", "(II)Z"⟩, 8) := ⟨⟨by decide +kernel, by decide +kernel⟩, List.mem_of_getElem? (i := 15) (by decide +kernel), List.mem_of_getElem? (i := 397) (by decide +kernel), List.mem_of_getElem? (i := 398) (by decide +kernel)⟩
theorem lw_p15 : lw_okq (⟨"RowUnwinder$Sights", "canBe", "(III)Z"⟩, 4) := ⟨⟨by decide +kernel, by decide +kernel⟩, List.mem_of_getElem? (i := 59) (by decide +kernel), List.mem_of_getElem? (i := 408) (by decide +kernel), List.mem_of_getElem? (i := 409) (by decide +kernel)⟩
def lw_privs_1 : List (MethodName × Nat) := [(⟨"RowUnwinder$Reader", "takesOp", "(I)Z"⟩, 7), (⟨"RowUnwinder$Reader", "takesOpLetter", "(I)Z"⟩, 7), (⟨"RowUnwinder$Reader", "takesFarther", "(I)Z"⟩, 7), (⟨"RowUnwinder$Reader", "takesDigit", "(IIII)Z"⟩, 7), (⟨"RowUnwinder$Reader", "takesBetweenPads", "(I)Z"⟩, 7), (⟨"RowUnwinder$Reader", "beginFunction", "()V"⟩, 7), (⟨"RowUnwinder$Scribe", "writeProgram", "(I)V"⟩, 8), (⟨"RowUnwinder$Scribe", "writeOp", "(I)V"⟩, 8), (⟨"RowUnwinder$Scribe", "writeRowsTo", "(II)V"⟩, 8), (⟨"RowUnwinder$Scribe", "save", "(III)V"⟩, 8), (⟨"RowUnwinder$Scribe", "free", "(I)V"⟩, 8), (⟨"RowUnwinder$Scribe", "rememberOrGoBack", "(I)V"⟩, 8), (⟨"RowUnwinder$Scribe", "writePads", "(I)V"⟩, 8), (⟨"RowUnwinder", "isFunction", "(I)Z"⟩, 8), (⟨"RowUnwinder", "isPad", "(II)Z"⟩, 8), (⟨"RowUnwinder$Sights", "canBe", "(III)Z"⟩, 4)]
theorem lw_r1 : ∀ q ∈ lw_privs_1, lw_okq q := List.forall_mem_cons.mpr ⟨lw_p0, List.forall_mem_cons.mpr ⟨lw_p1, List.forall_mem_cons.mpr ⟨lw_p2, List.forall_mem_cons.mpr ⟨lw_p3, List.forall_mem_cons.mpr ⟨lw_p4, List.forall_mem_cons.mpr ⟨lw_p5, List.forall_mem_cons.mpr ⟨lw_p6, List.forall_mem_cons.mpr ⟨lw_p7, List.forall_mem_cons.mpr ⟨lw_p8, List.forall_mem_cons.mpr ⟨lw_p9, List.forall_mem_cons.mpr ⟨lw_p10, List.forall_mem_cons.mpr ⟨lw_p11, List.forall_mem_cons.mpr ⟨lw_p12, List.forall_mem_cons.mpr ⟨lw_p13, List.forall_mem_cons.mpr ⟨lw_p14, List.forall_mem_cons.mpr ⟨lw_p15, fun _ h => absurd h List.not_mem_nil⟩⟩⟩⟩⟩⟩⟩⟩⟩⟩⟩⟩⟩⟩⟩⟩
theorem lw_p16 : lw_okq (⟨"RowUnwinder$Machine", "behindBack", "(III)I"⟩, 9) := ⟨⟨by decide +kernel, by decide +kernel⟩, List.mem_of_getElem? (i := 79) (by decide +kernel), List.mem_of_getElem? (i := 444) (by decide +kernel), List.mem_of_getElem? (i := 445) (by decide +kernel)⟩
theorem lw_p17 : lw_okq (⟨"RowUnwinder", "beginDoing", "()V"⟩, 8) := ⟨⟨by decide +kernel, by decide +kernel⟩, List.mem_of_getElem? (i := 15) (by decide +kernel), List.mem_of_getElem? (i := 457) (by decide +kernel), List.mem_of_getElem? (i := 458) (by decide +kernel)⟩
theorem lw_p18 : lw_okq (⟨"RowUnwinder$Machine", "saveAtLatest", "()V"⟩, 9) := ⟨⟨by decide +kernel, by decide +kernel⟩, List.mem_of_getElem? (i := 79) (by decide +kernel), List.mem_of_getElem? (i := 482) (by decide +kernel), List.mem_of_getElem? (i := 483) (by decide +kernel)⟩
theorem lw_p19 : lw_okq (⟨"RowUnwinder", "hasText", "()Z"⟩, 8) := ⟨⟨by decide +kernel, by decide +kernel⟩, List.mem_of_getElem? (i := 15) (by decide +kernel), List.mem_of_getElem? (i := 518) (by decide +kernel), List.mem_of_getElem? (i := 519) (by decide +kernel)⟩
theorem lw_p20 : lw_okq (⟨"RowUnwinder$Machine", "deedAt", "(III)I"⟩, 9) := ⟨⟨by decide +kernel, by decide +kernel⟩, List.mem_of_getElem? (i := 79) (by decide +kernel), List.mem_of_getElem? (i := 539) (by decide +kernel), List.mem_of_getElem? (i := 540) (by decide +kernel)⟩
theorem lw_p21 : lw_okq (⟨"RowUnwinder$Machine", "finishAtLatest", "(II)V"⟩, 9) := ⟨⟨by decide +kernel, by decide +kernel⟩, List.mem_of_getElem? (i := 79) (by decide +kernel), List.mem_of_getElem? (i := 548) (by decide +kernel), List.mem_of_getElem? (i := 549) (by decide +kernel)⟩
theorem lw_p22 : lw_okq (⟨"RowUnwinder$Draws", "throwDrawn", "(LRowUnwinder$Machine;)Z"⟩, 1) := ⟨⟨by decide +kernel, by decide +kernel⟩, List.mem_of_getElem? (i := 601) (by decide +kernel), List.mem_of_getElem? (i := 627) (by decide +kernel), List.mem_of_getElem? (i := 628) (by decide +kernel)⟩
theorem lw_p23 : lw_okq (⟨"RowUnwinder$Code", "isAnythingSaved", "(II)Z"⟩, 6) := ⟨⟨by decide +kernel, by decide +kernel⟩, List.mem_of_getElem? (i := 81) (by decide +kernel), List.mem_of_getElem? (i := 662) (by decide +kernel), List.mem_of_getElem? (i := 663) (by decide +kernel)⟩
theorem lw_p24 : lw_okq (⟨"RowUnwinder", "digestFunction", "(JI)J"⟩, 8) := ⟨⟨by decide +kernel, by decide +kernel⟩, List.mem_of_getElem? (i := 15) (by decide +kernel), List.mem_of_getElem? (i := 672) (by decide +kernel), List.mem_of_getElem? (i := 673) (by decide +kernel)⟩
theorem lw_p25 : lw_okq (⟨"RowUnwinder", "digestThrowing", "(J)J"⟩, 8) := ⟨⟨by decide +kernel, by decide +kernel⟩, List.mem_of_getElem? (i := 15) (by decide +kernel), List.mem_of_getElem? (i := 684) (by decide +kernel), List.mem_of_getElem? (i := 685) (by decide +kernel)⟩
theorem lw_p26 : lw_okq (⟨"RowUnwinderModel", "faultOf", "()I"⟩, 42) := ⟨⟨by decide +kernel, by decide +kernel⟩, List.mem_of_getElem? (i := 693) (by decide +kernel), List.mem_of_getElem? (i := 842) (by decide +kernel), List.mem_of_getElem? (i := 843) (by decide +kernel)⟩
theorem lw_p27 : lw_okq (⟨"RowUnwinderModel", "beginFunction", "()V"⟩, 42) := ⟨⟨by decide +kernel, by decide +kernel⟩, List.mem_of_getElem? (i := 693) (by decide +kernel), List.mem_of_getElem? (i := 846) (by decide +kernel), List.mem_of_getElem? (i := 847) (by decide +kernel)⟩
theorem lw_p28 : lw_okq (⟨"RowUnwinderModel", "isGood", "(I)Z"⟩, 42) := ⟨⟨by decide +kernel, by decide +kernel⟩, List.mem_of_getElem? (i := 693) (by decide +kernel), List.mem_of_getElem? (i := 850) (by decide +kernel), List.mem_of_getElem? (i := 851) (by decide +kernel)⟩
theorem lw_p29 : lw_okq (⟨"RowUnwinderModel", "isPadBegun", "(I)Z"⟩, 42) := ⟨⟨by decide +kernel, by decide +kernel⟩, List.mem_of_getElem? (i := 693) (by decide +kernel), List.mem_of_getElem? (i := 854) (by decide +kernel), List.mem_of_getElem? (i := 855) (by decide +kernel)⟩
theorem lw_p30 : lw_okq (⟨"RowUnwinderModel", "isPadDigit", "(I)Z"⟩, 42) := ⟨⟨by decide +kernel, by decide +kernel⟩, List.mem_of_getElem? (i := 693) (by decide +kernel), List.mem_of_getElem? (i := 861) (by decide +kernel), List.mem_of_getElem? (i := 862) (by decide +kernel)⟩
theorem lw_p31 : lw_okq (⟨"RowUnwinderModel", "isOpBegun", "(I)Z"⟩, 42) := ⟨⟨by decide +kernel, by decide +kernel⟩, List.mem_of_getElem? (i := 693) (by decide +kernel), List.mem_of_getElem? (i := 868) (by decide +kernel), List.mem_of_getElem? (i := 869) (by decide +kernel)⟩
def lw_privs_2 : List (MethodName × Nat) := [(⟨"RowUnwinder$Machine", "behindBack", "(III)I"⟩, 9), (⟨"RowUnwinder", "beginDoing", "()V"⟩, 8), (⟨"RowUnwinder$Machine", "saveAtLatest", "()V"⟩, 9), (⟨"RowUnwinder", "hasText", "()Z"⟩, 8), (⟨"RowUnwinder$Machine", "deedAt", "(III)I"⟩, 9), (⟨"RowUnwinder$Machine", "finishAtLatest", "(II)V"⟩, 9), (⟨"RowUnwinder$Draws", "throwDrawn", "(LRowUnwinder$Machine;)Z"⟩, 1), (⟨"RowUnwinder$Code", "isAnythingSaved", "(II)Z"⟩, 6), (⟨"RowUnwinder", "digestFunction", "(JI)J"⟩, 8), (⟨"RowUnwinder", "digestThrowing", "(J)J"⟩, 8), (⟨"RowUnwinderModel", "faultOf", "()I"⟩, 42), (⟨"RowUnwinderModel", "beginFunction", "()V"⟩, 42), (⟨"RowUnwinderModel", "isGood", "(I)Z"⟩, 42), (⟨"RowUnwinderModel", "isPadBegun", "(I)Z"⟩, 42), (⟨"RowUnwinderModel", "isPadDigit", "(I)Z"⟩, 42), (⟨"RowUnwinderModel", "isOpBegun", "(I)Z"⟩, 42)]
theorem lw_r2 : ∀ q ∈ lw_privs_2, lw_okq q := List.forall_mem_cons.mpr ⟨lw_p16, List.forall_mem_cons.mpr ⟨lw_p17, List.forall_mem_cons.mpr ⟨lw_p18, List.forall_mem_cons.mpr ⟨lw_p19, List.forall_mem_cons.mpr ⟨lw_p20, List.forall_mem_cons.mpr ⟨lw_p21, List.forall_mem_cons.mpr ⟨lw_p22, List.forall_mem_cons.mpr ⟨lw_p23, List.forall_mem_cons.mpr ⟨lw_p24, List.forall_mem_cons.mpr ⟨lw_p25, List.forall_mem_cons.mpr ⟨lw_p26, List.forall_mem_cons.mpr ⟨lw_p27, List.forall_mem_cons.mpr ⟨lw_p28, List.forall_mem_cons.mpr ⟨lw_p29, List.forall_mem_cons.mpr ⟨lw_p30, List.forall_mem_cons.mpr ⟨lw_p31, fun _ h => absurd h List.not_mem_nil⟩⟩⟩⟩⟩⟩⟩⟩⟩⟩⟩⟩⟩⟩⟩⟩
theorem lw_p32 : lw_okq (⟨"RowUnwinderModel", "endOp", "()V"⟩, 42) := ⟨⟨by decide +kernel, by decide +kernel⟩, List.mem_of_getElem? (i := 693) (by decide +kernel), List.mem_of_getElem? (i := 872) (by decide +kernel), List.mem_of_getElem? (i := 873) (by decide +kernel)⟩
theorem lw_p33 : lw_okq (⟨"RowUnwinderModel", "isOpDigit", "(I)Z"⟩, 42) := ⟨⟨by decide +kernel, by decide +kernel⟩, List.mem_of_getElem? (i := 693) (by decide +kernel), List.mem_of_getElem? (i := 879) (by decide +kernel), List.mem_of_getElem? (i := 880) (by decide +kernel)⟩
theorem lw_p34 : lw_okq (⟨"RowUnwinderModel", "layFunction", "(I)V"⟩, 42) := ⟨⟨by decide +kernel, by decide +kernel⟩, List.mem_of_getElem? (i := 693) (by decide +kernel), List.mem_of_getElem? (i := 893) (by decide +kernel), List.mem_of_getElem? (i := 894) (by decide +kernel)⟩
theorem lw_p35 : lw_okq (⟨"RowUnwinderModel", "doOp", "(II)V"⟩, 42) := ⟨⟨by decide +kernel, by decide +kernel⟩, List.mem_of_getElem? (i := 693) (by decide +kernel), List.mem_of_getElem? (i := 897) (by decide +kernel), List.mem_of_getElem? (i := 898) (by decide +kernel)⟩
theorem lw_p36 : lw_okq (⟨"RowUnwinderModel", "isFunction", "(I)Z"⟩, 42) := ⟨⟨by decide +kernel, by decide +kernel⟩, List.mem_of_getElem? (i := 693) (by decide +kernel), List.mem_of_getElem? (i := 909) (by decide +kernel), List.mem_of_getElem? (i := 910) (by decide +kernel)⟩
theorem lw_p37 : lw_okq (⟨"RowUnwinderModel", "frames", "()I"⟩, 42) := ⟨⟨by decide +kernel, by decide +kernel⟩, List.mem_of_getElem? (i := 693) (by decide +kernel), List.mem_of_getElem? (i := 913) (by decide +kernel), List.mem_of_getElem? (i := 914) (by decide +kernel)⟩
theorem lw_p38 : lw_okq (⟨"RowUnwinderModel", "keep", "()V"⟩, 42) := ⟨⟨by decide +kernel, by decide +kernel⟩, List.mem_of_getElem? (i := 693) (by decide +kernel), List.mem_of_getElem? (i := 917) (by decide +kernel), List.mem_of_getElem? (i := 918) (by decide +kernel)⟩
theorem lw_p39 : lw_okq (⟨"RowUnwinderModel", "doCall", "(I)V"⟩, 42) := ⟨⟨by decide +kernel, by decide +kernel⟩, List.mem_of_getElem? (i := 693) (by decide +kernel), List.mem_of_getElem? (i := 921) (by decide +kernel), List.mem_of_getElem? (i := 922) (by decide +kernel)⟩
theorem lw_p40 : lw_okq (⟨"RowUnwinderModel", "frameAt", "(I)I"⟩, 42) := ⟨⟨by decide +kernel, by decide +kernel⟩, List.mem_of_getElem? (i := 693) (by decide +kernel), List.mem_of_getElem? (i := 925) (by decide +kernel), List.mem_of_getElem? (i := 926) (by decide +kernel)⟩
theorem lw_p41 : lw_okq (⟨"RowUnwinderModel", "saveAt", "(I)V"⟩, 42) := ⟨⟨by decide +kernel, by decide +kernel⟩, List.mem_of_getElem? (i := 693) (by decide +kernel), List.mem_of_getElem? (i := 929) (by decide +kernel), List.mem_of_getElem? (i := 930) (by decide +kernel)⟩
theorem lw_p42 : lw_okq (⟨"RowUnwinderModel", "doGo", "(I)V"⟩, 42) := ⟨⟨by decide +kernel, by decide +kernel⟩, List.mem_of_getElem? (i := 693) (by decide +kernel), List.mem_of_getElem? (i := 938) (by decide +kernel), List.mem_of_getElem? (i := 939) (by decide +kernel)⟩
theorem lw_p43 : lw_okq (⟨"RowUnwinderModel", "lacks", "()Z"⟩, 42) := ⟨⟨by decide +kernel, by decide +kernel⟩, List.mem_of_getElem? (i := 693) (by decide +kernel), List.mem_of_getElem? (i := 948) (by decide +kernel), List.mem_of_getElem? (i := 949) (by decide +kernel)⟩
theorem lw_p44 : lw_okq (⟨"RowUnwinderModel", "doBack", "()V"⟩, 42) := ⟨⟨by decide +kernel, by decide +kernel⟩, List.mem_of_getElem? (i := 693) (by decide +kernel), List.mem_of_getElem? (i := 956) (by decide +kernel), List.mem_of_getElem? (i := 957) (by decide +kernel)⟩
theorem lw_p45 : lw_okq (⟨"RowUnwinderModel", "searchOf", "(II)I"⟩, 42) := ⟨⟨by decide +kernel, by decide +kernel⟩, List.mem_of_getElem? (i := 693) (by decide +kernel), List.mem_of_getElem? (i := 966) (by decide +kernel), List.mem_of_getElem? (i := 967) (by decide +kernel)⟩
theorem lw_p46 : lw_okq (⟨"RowUnwinderModel", "layCatcher", "(I)V"⟩, 42) := ⟨⟨by decide +kernel, by decide +kernel⟩, List.mem_of_getElem? (i := 693) (by decide +kernel), List.mem_of_getElem? (i := 970) (by decide +kernel), List.mem_of_getElem? (i := 971) (by decide +kernel)⟩
theorem lw_p47 : lw_okq (⟨"RowUnwinderModel", "doesAt", "(IIII)I"⟩, 42) := ⟨⟨by decide +kernel, by decide +kernel⟩, List.mem_of_getElem? (i := 693) (by decide +kernel), List.mem_of_getElem? (i := 974) (by decide +kernel), List.mem_of_getElem? (i := 975) (by decide +kernel)⟩
def lw_privs_3 : List (MethodName × Nat) := [(⟨"RowUnwinderModel", "endOp", "()V"⟩, 42), (⟨"RowUnwinderModel", "isOpDigit", "(I)Z"⟩, 42), (⟨"RowUnwinderModel", "layFunction", "(I)V"⟩, 42), (⟨"RowUnwinderModel", "doOp", "(II)V"⟩, 42), (⟨"RowUnwinderModel", "isFunction", "(I)Z"⟩, 42), (⟨"RowUnwinderModel", "frames", "()I"⟩, 42), (⟨"RowUnwinderModel", "keep", "()V"⟩, 42), (⟨"RowUnwinderModel", "doCall", "(I)V"⟩, 42), (⟨"RowUnwinderModel", "frameAt", "(I)I"⟩, 42), (⟨"RowUnwinderModel", "saveAt", "(I)V"⟩, 42), (⟨"RowUnwinderModel", "doGo", "(I)V"⟩, 42), (⟨"RowUnwinderModel", "lacks", "()Z"⟩, 42), (⟨"RowUnwinderModel", "doBack", "()V"⟩, 42), (⟨"RowUnwinderModel", "searchOf", "(II)I"⟩, 42), (⟨"RowUnwinderModel", "layCatcher", "(I)V"⟩, 42), (⟨"RowUnwinderModel", "doesAt", "(IIII)I"⟩, 42)]
theorem lw_r3 : ∀ q ∈ lw_privs_3, lw_okq q := List.forall_mem_cons.mpr ⟨lw_p32, List.forall_mem_cons.mpr ⟨lw_p33, List.forall_mem_cons.mpr ⟨lw_p34, List.forall_mem_cons.mpr ⟨lw_p35, List.forall_mem_cons.mpr ⟨lw_p36, List.forall_mem_cons.mpr ⟨lw_p37, List.forall_mem_cons.mpr ⟨lw_p38, List.forall_mem_cons.mpr ⟨lw_p39, List.forall_mem_cons.mpr ⟨lw_p40, List.forall_mem_cons.mpr ⟨lw_p41, List.forall_mem_cons.mpr ⟨lw_p42, List.forall_mem_cons.mpr ⟨lw_p43, List.forall_mem_cons.mpr ⟨lw_p44, List.forall_mem_cons.mpr ⟨lw_p45, List.forall_mem_cons.mpr ⟨lw_p46, List.forall_mem_cons.mpr ⟨lw_p47, fun _ h => absurd h List.not_mem_nil⟩⟩⟩⟩⟩⟩⟩⟩⟩⟩⟩⟩⟩⟩⟩⟩
theorem lw_p48 : lw_okq (⟨"RowUnwinderModel", "doRaise", "(I)V"⟩, 42) := ⟨⟨by decide +kernel, by decide +kernel⟩, List.mem_of_getElem? (i := 693) (by decide +kernel), List.mem_of_getElem? (i := 988) (by decide +kernel), List.mem_of_getElem? (i := 989) (by decide +kernel)⟩
theorem lw_p49 : lw_okq (⟨"RowUnwinderModel", "finish", "(II)V"⟩, 42) := ⟨⟨by decide +kernel, by decide +kernel⟩, List.mem_of_getElem? (i := 693) (by decide +kernel), List.mem_of_getElem? (i := 992) (by decide +kernel), List.mem_of_getElem? (i := 993) (by decide +kernel)⟩
theorem lw_p50 : lw_okq (⟨"RowUnwinderModel", "looseOf", "()I"⟩, 42) := ⟨⟨by decide +kernel, by decide +kernel⟩, List.mem_of_getElem? (i := 693) (by decide +kernel), List.mem_of_getElem? (i := 1000) (by decide +kernel), List.mem_of_getElem? (i := 1001) (by decide +kernel)⟩
theorem lw_p51 : lw_okq (⟨"RowUnwinderModel", "isPad", "(II)Z"⟩, 42) := ⟨⟨by decide +kernel, by decide +kernel⟩, List.mem_of_getElem? (i := 693) (by decide +kernel), List.mem_of_getElem? (i := 1012) (by decide +kernel), List.mem_of_getElem? (i := 1013) (by decide +kernel)⟩
theorem lw_p52 : lw_okq (⟨"RowUnwinderModel", "tellRow", "(III)I"⟩, 42) := ⟨⟨by decide +kernel, by decide +kernel⟩, List.mem_of_getElem? (i := 693) (by decide +kernel), List.mem_of_getElem? (i := 1021) (by decide +kernel), List.mem_of_getElem? (i := 1022) (by decide +kernel)⟩
theorem lw_p53 : lw_okq (⟨"RowUnwinderModel", "tellPad", "(III)I"⟩, 42) := ⟨⟨by decide +kernel, by decide +kernel⟩, List.mem_of_getElem? (i := 693) (by decide +kernel), List.mem_of_getElem? (i := 1029) (by decide +kernel), List.mem_of_getElem? (i := 1030) (by decide +kernel)⟩
theorem lw_p54 : lw_okq (⟨"RowUnwinderModel", "sortsOf", "(II)I"⟩, 42) := ⟨⟨by decide +kernel, by decide +kernel⟩, List.mem_of_getElem? (i := 693) (by decide +kernel), List.mem_of_getElem? (i := 1033) (by decide +kernel), List.mem_of_getElem? (i := 1034) (by decide +kernel)⟩
theorem lw_p55 : lw_okq (⟨"RowUnwinderModel", "askOf", "(II)I"⟩, 42) := ⟨⟨by decide +kernel, by decide +kernel⟩, List.mem_of_getElem? (i := 693) (by decide +kernel), List.mem_of_getElem? (i := 1037) (by decide +kernel), List.mem_of_getElem? (i := 1038) (by decide +kernel)⟩
theorem lw_p56 : lw_okq (⟨"RowUnwinderModel", "tellFrame", "(II)I"⟩, 42) := ⟨⟨by decide +kernel, by decide +kernel⟩, List.mem_of_getElem? (i := 693) (by decide +kernel), List.mem_of_getElem? (i := 1050) (by decide +kernel), List.mem_of_getElem? (i := 1051) (by decide +kernel)⟩
theorem lw_p57 : lw_okq (⟨"RowUnwinderModel", "callerOf", "(II)I"⟩, 42) := ⟨⟨by decide +kernel, by decide +kernel⟩, List.mem_of_getElem? (i := 693) (by decide +kernel), List.mem_of_getElem? (i := 1054) (by decide +kernel), List.mem_of_getElem? (i := 1055) (by decide +kernel)⟩
theorem lw_p58 : lw_okq (⟨"RowUnwinderModel", "drawOne", "()I"⟩, 42) := ⟨⟨by decide +kernel, by decide +kernel⟩, List.mem_of_getElem? (i := 693) (by decide +kernel), List.mem_of_getElem? (i := 1079) (by decide +kernel), List.mem_of_getElem? (i := 1080) (by decide +kernel)⟩
theorem lw_p59 : lw_okq (⟨"RowUnwinderModel", "draw", "(I)I"⟩, 42) := ⟨⟨by decide +kernel, by decide +kernel⟩, List.mem_of_getElem? (i := 693) (by decide +kernel), List.mem_of_getElem? (i := 1083) (by decide +kernel), List.mem_of_getElem? (i := 1084) (by decide +kernel)⟩
theorem lw_p60 : lw_okq (⟨"RowUnwinderModel", "drawCall", "()V"⟩, 42) := ⟨⟨by decide +kernel, by decide +kernel⟩, List.mem_of_getElem? (i := 693) (by decide +kernel), List.mem_of_getElem? (i := 1091) (by decide +kernel), List.mem_of_getElem? (i := 1092) (by decide +kernel)⟩
theorem lw_p61 : lw_okq (⟨"RowUnwinderModel", "drawGo", "()V"⟩, 42) := ⟨⟨by decide +kernel, by decide +kernel⟩, List.mem_of_getElem? (i := 693) (by decide +kernel), List.mem_of_getElem? (i := 1095) (by decide +kernel), List.mem_of_getElem? (i := 1096) (by decide +kernel)⟩
theorem lw_p62 : lw_okq (⟨"RowUnwinderModel", "drawSet", "()V"⟩, 42) := ⟨⟨by decide +kernel, by decide +kernel⟩, List.mem_of_getElem? (i := 693) (by decide +kernel), List.mem_of_getElem? (i := 1099) (by decide +kernel), List.mem_of_getElem? (i := 1100) (by decide +kernel)⟩
theorem lw_p63 : lw_okq (⟨"RowUnwinderModel", "drawRaise", "()I"⟩, 42) := ⟨⟨by decide +kernel, by decide +kernel⟩, List.mem_of_getElem? (i := 693) (by decide +kernel), List.mem_of_getElem? (i := 1103) (by decide +kernel), List.mem_of_getElem? (i := 1104) (by decide +kernel)⟩
def lw_privs_4 : List (MethodName × Nat) := [(⟨"RowUnwinderModel", "doRaise", "(I)V"⟩, 42), (⟨"RowUnwinderModel", "finish", "(II)V"⟩, 42), (⟨"RowUnwinderModel", "looseOf", "()I"⟩, 42), (⟨"RowUnwinderModel", "isPad", "(II)Z"⟩, 42), (⟨"RowUnwinderModel", "tellRow", "(III)I"⟩, 42), (⟨"RowUnwinderModel", "tellPad", "(III)I"⟩, 42), (⟨"RowUnwinderModel", "sortsOf", "(II)I"⟩, 42), (⟨"RowUnwinderModel", "askOf", "(II)I"⟩, 42), (⟨"RowUnwinderModel", "tellFrame", "(II)I"⟩, 42), (⟨"RowUnwinderModel", "callerOf", "(II)I"⟩, 42), (⟨"RowUnwinderModel", "drawOne", "()I"⟩, 42), (⟨"RowUnwinderModel", "draw", "(I)I"⟩, 42), (⟨"RowUnwinderModel", "drawCall", "()V"⟩, 42), (⟨"RowUnwinderModel", "drawGo", "()V"⟩, 42), (⟨"RowUnwinderModel", "drawSet", "()V"⟩, 42), (⟨"RowUnwinderModel", "drawRaise", "()I"⟩, 42)]
theorem lw_r4 : ∀ q ∈ lw_privs_4, lw_okq q := List.forall_mem_cons.mpr ⟨lw_p48, List.forall_mem_cons.mpr ⟨lw_p49, List.forall_mem_cons.mpr ⟨lw_p50, List.forall_mem_cons.mpr ⟨lw_p51, List.forall_mem_cons.mpr ⟨lw_p52, List.forall_mem_cons.mpr ⟨lw_p53, List.forall_mem_cons.mpr ⟨lw_p54, List.forall_mem_cons.mpr ⟨lw_p55, List.forall_mem_cons.mpr ⟨lw_p56, List.forall_mem_cons.mpr ⟨lw_p57, List.forall_mem_cons.mpr ⟨lw_p58, List.forall_mem_cons.mpr ⟨lw_p59, List.forall_mem_cons.mpr ⟨lw_p60, List.forall_mem_cons.mpr ⟨lw_p61, List.forall_mem_cons.mpr ⟨lw_p62, List.forall_mem_cons.mpr ⟨lw_p63, fun _ h => absurd h List.not_mem_nil⟩⟩⟩⟩⟩⟩⟩⟩⟩⟩⟩⟩⟩⟩⟩⟩
theorem lw_p64 : lw_okq (⟨"RowUnwinderModel", "countOf", "(I)I"⟩, 42) := ⟨⟨by decide +kernel, by decide +kernel⟩, List.mem_of_getElem? (i := 693) (by decide +kernel), List.mem_of_getElem? (i := 1119) (by decide +kernel), List.mem_of_getElem? (i := 1120) (by decide +kernel)⟩
theorem lw_p65 : lw_okq (⟨"RowUnwinderModel", "padsAll", "()I"⟩, 42) := ⟨⟨by decide +kernel, by decide +kernel⟩, List.mem_of_getElem? (i := 693) (by decide +kernel), List.mem_of_getElem? (i := 1123) (by decide +kernel), List.mem_of_getElem? (i := 1124) (by decide +kernel)⟩
theorem lw_p66 : lw_okq (⟨"RowUnwinderModel", "savedMany", "()I"⟩, 42) := ⟨⟨by decide +kernel, by decide +kernel⟩, List.mem_of_getElem? (i := 693) (by decide +kernel), List.mem_of_getElem? (i := 1127) (by decide +kernel), List.mem_of_getElem? (i := 1128) (by decide +kernel)⟩
theorem lw_p67 : lw_okq (⟨"RowUnwinderModel", "sayFunction", "(I)V"⟩, 42) := ⟨⟨by decide +kernel, by decide +kernel⟩, List.mem_of_getElem? (i := 693) (by decide +kernel), List.mem_of_getElem? (i := 1136) (by decide +kernel), List.mem_of_getElem? (i := 1137) (by decide +kernel)⟩
theorem lw_p68 : lw_okq (⟨"RowUnwinderModel", "say", "(J)V"⟩, 42) := ⟨⟨by decide +kernel, by decide +kernel⟩, List.mem_of_getElem? (i := 693) (by decide +kernel), List.mem_of_getElem? (i := 1140) (by decide +kernel), List.mem_of_getElem? (i := 1141) (by decide +kernel)⟩
theorem lw_p69 : lw_okq (⟨"RowUnwinderModel", "sayText", "()V"⟩, 42) := ⟨⟨by decide +kernel, by decide +kernel⟩, List.mem_of_getElem? (i := 693) (by decide +kernel), List.mem_of_getElem? (i := 1145) (by decide +kernel), List.mem_of_getElem? (i := 1146) (by decide +kernel)⟩
def lw_privs_5 : List (MethodName × Nat) := [(⟨"RowUnwinderModel", "countOf", "(I)I"⟩, 42), (⟨"RowUnwinderModel", "padsAll", "()I"⟩, 42), (⟨"RowUnwinderModel", "savedMany", "()I"⟩, 42), (⟨"RowUnwinderModel", "sayFunction", "(I)V"⟩, 42), (⟨"RowUnwinderModel", "say", "(J)V"⟩, 42), (⟨"RowUnwinderModel", "sayText", "()V"⟩, 42)]
theorem lw_r5 : ∀ q ∈ lw_privs_5, lw_okq q := List.forall_mem_cons.mpr ⟨lw_p64, List.forall_mem_cons.mpr ⟨lw_p65, List.forall_mem_cons.mpr ⟨lw_p66, List.forall_mem_cons.mpr ⟨lw_p67, List.forall_mem_cons.mpr ⟨lw_p68, List.forall_mem_cons.mpr ⟨lw_p69, fun _ h => absurd h List.not_mem_nil⟩⟩⟩⟩⟩⟩
def lw_privs : List (MethodName × Nat) := lw_privs_1 ++ (lw_privs_2 ++ (lw_privs_3 ++ (lw_privs_4 ++ (lw_privs_5))))
def lw_tbl : List Cond := k2_sels lw_privs ++ tables_1
theorem lw_privs_ok : ∀ q ∈ lw_privs, lw_okq q := by
  show ∀ q ∈ lw_privs_1 ++ (lw_privs_2 ++ (lw_privs_3 ++ (lw_privs_4 ++ (lw_privs_5)))), lw_okq q
  exact List.forall_mem_append.mpr ⟨lw_r1, List.forall_mem_append.mpr ⟨lw_r2, List.forall_mem_append.mpr ⟨lw_r3, List.forall_mem_append.mpr ⟨lw_r4, lw_r5⟩⟩⟩⟩
def RX0 : String := "RowUnwinder$Code"
def TX0 : u_T := fun k => match k with
  | 0 => ("RowUnwinder$Code", "functions", "I", false)
  | 1 => ("RowUnwinder$Code", "rows", "[I", true)
  | 2 => ("RowUnwinder$Code", "saves", "[I", true)
  | 3 => ("RowUnwinder$Code", "saveCounts", "[I", true)
  | 4 => ("RowUnwinder$Code", "pads", "[I", true)
  | _ => ("RowUnwinder$Code", "padCounts", "[I", true)
def tyX0 : Nat → FieldType := fun k => match k with
  | 0 => .int
  | 1 => .array .int
  | 2 => .array .int
  | 3 => .array .int
  | 4 => .array .int
  | _ => .array .int
abbrev wsX00 : List Cond := u_ws RX0 TX0 6
theorem nmX0 : ∀ a, a < 6 → ∀ b, b < 6 → a ≠ b → (TX0 a).2.1 ≠ (TX0 b).2.1 := by decide +kernel
theorem tyX0_ok : ∀ k, k < 6 → parseFieldDescriptor (TX0 k).2.2.1 = some (tyX0 k) := by decide +kernel
abbrev cX0_init : ByteArray := prog_2_method_1_code
def yX0_init : MethodName := ⟨RX0, "<init>", "()V"⟩
abbrev cX0_rowPart : ByteArray := prog_2_method_2_code
def yX0_rowPart : MethodName := ⟨RX0, "rowPart", "(III)I"⟩
abbrev cX0_writeRowPart : ByteArray := prog_2_method_3_code
def yX0_writeRowPart : MethodName := ⟨RX0, "writeRowPart", "(IIII)V"⟩
abbrev cX0_padCount : ByteArray := prog_2_method_4_code
def yX0_padCount : MethodName := ⟨RX0, "padCount", "(I)I"⟩
abbrev cX0_writePadCount : ByteArray := prog_2_method_5_code
def yX0_writePadCount : MethodName := ⟨RX0, "writePadCount", "(II)V"⟩
abbrev cX0_padPart : ByteArray := prog_2_method_6_code
def yX0_padPart : MethodName := ⟨RX0, "padPart", "(III)I"⟩
abbrev cX0_writePadPart : ByteArray := prog_2_method_7_code
def yX0_writePadPart : MethodName := ⟨RX0, "writePadPart", "(IIII)V"⟩
abbrev cX0_saveCount : ByteArray := prog_2_method_8_code
def yX0_saveCount : MethodName := ⟨RX0, "saveCount", "(I)I"⟩
abbrev cX0_saveAddress : ByteArray := prog_2_method_9_code
def yX0_saveAddress : MethodName := ⟨RX0, "saveAddress", "(II)I"⟩
abbrev cX0_saveRegister : ByteArray := prog_2_method_10_code
def yX0_saveRegister : MethodName := ⟨RX0, "saveRegister", "(II)I"⟩
abbrev cX0_saveCell : ByteArray := prog_2_method_11_code
def yX0_saveCell : MethodName := ⟨RX0, "saveCell", "(II)I"⟩
abbrev cX0_addSave : ByteArray := prog_2_method_12_code
def yX0_addSave : MethodName := ⟨RX0, "addSave", "(IIII)V"⟩
abbrev cX0_countPads : ByteArray := prog_2_method_13_code
def yX0_countPads : MethodName := ⟨RX0, "countPads", "()I"⟩
abbrev cX0_countSavingAddresses : ByteArray := prog_2_method_14_code
def yX0_countSavingAddresses : MethodName := ⟨RX0, "countSavingAddresses", "()I"⟩
abbrev cX0_isAnythingSaved : ByteArray := prog_2_method_15_code
def yX0_isAnythingSaved : MethodName := ⟨RX0, "isAnythingSaved", "(II)Z"⟩
def RX1 : String := "RowUnwinder$Draws"
def TX1 : u_T := fun k => match k with
  | _ => ("RowUnwinder$Draws", "seed", "J", false)
def tyX1 : Nat → FieldType := fun k => match k with
  | _ => .long
abbrev wsX10 : List Cond := u_ws RX1 TX1 1
theorem nmX1 : ∀ a, a < 1 → ∀ b, b < 1 → a ≠ b → (TX1 a).2.1 ≠ (TX1 b).2.1 := by decide +kernel
theorem tyX1_ok : ∀ k, k < 1 → parseFieldDescriptor (TX1 k).2.2.1 = some (tyX1 k) := by decide +kernel
abbrev cX1_init : ByteArray := prog_3_method_1_code
def yX1_init : MethodName := ⟨RX1, "<init>", "(I)V"⟩
abbrev cX1_draw : ByteArray := prog_3_method_2_code
def yX1_draw : MethodName := ⟨RX1, "draw", "(I)I"⟩
abbrev cX1_doOne : ByteArray := prog_3_method_3_code
def yX1_doOne : MethodName := ⟨RX1, "doOne", "(LRowUnwinder$Machine;)Z"⟩
abbrev cX1_throwDrawn : ByteArray := prog_3_method_4_code
def yX1_throwDrawn : MethodName := ⟨RX1, "throwDrawn", "(LRowUnwinder$Machine;)Z"⟩
def RX2 : String := "RowUnwinder$History"
def TX2 : u_T := fun k => match k with
  | 0 => ("RowUnwinder$History", "past", "[LRowUnwinder$Machine;", true)
  | 1 => ("RowUnwinder$History", "next", "I", false)
  | _ => ("RowUnwinder$History", "many", "I", false)
def tyX2 : Nat → FieldType := fun k => match k with
  | 0 => .array (.object "RowUnwinder$Machine")
  | 1 => .int
  | _ => .int
abbrev wsX20 : List Cond := u_ws RX2 TX2 3
theorem nmX2 : ∀ a, a < 3 → ∀ b, b < 3 → a ≠ b → (TX2 a).2.1 ≠ (TX2 b).2.1 := by decide +kernel
theorem tyX2_ok : ∀ k, k < 3 → parseFieldDescriptor (TX2 k).2.2.1 = some (tyX2 k) := by decide +kernel
abbrev cX2_init : ByteArray := prog_4_method_1_code
def yX2_init : MethodName := ⟨RX2, "<init>", "()V"⟩
abbrev cX2_empty : ByteArray := prog_4_method_2_code
def yX2_empty : MethodName := ⟨RX2, "empty", "()V"⟩
abbrev cX2_add : ByteArray := prog_4_method_3_code
def yX2_add : MethodName := ⟨RX2, "add", "(LRowUnwinder$Machine;)V"⟩
abbrev cX2_takeLatest : ByteArray := prog_4_method_4_code
def yX2_takeLatest : MethodName := ⟨RX2, "takeLatest", "(LRowUnwinder$Machine;)LRowUnwinder$Machine;"⟩
abbrev cX2_become : ByteArray := prog_4_method_5_code
def yX2_become : MethodName := ⟨RX2, "become", "(LRowUnwinder$History;)V"⟩
def RX3 : String := "RowUnwinder$Machine"
def TX3 : u_T := fun k => match k with
  | 0 => ("RowUnwinder$Machine", "code", "LRowUnwinder$Code;", true)
  | 1 => ("RowUnwinder$Machine", "kinds", "[I", true)
  | 2 => ("RowUnwinder$Machine", "registers", "[I", true)
  | 3 => ("RowUnwinder$Machine", "functions", "[I", true)
  | 4 => ("RowUnwinder$Machine", "addresses", "[I", true)
  | 5 => ("RowUnwinder$Machine", "cells", "[I", true)
  | 6 => ("RowUnwinder$Machine", "finished", "[I", true)
  | 7 => ("RowUnwinder$Machine", "frames", "I", false)
  | _ => ("RowUnwinder$Machine", "finishers", "I", false)
def tyX3 : Nat → FieldType := fun k => match k with
  | 0 => .object "RowUnwinder$Code"
  | 1 => .array .int
  | 2 => .array .int
  | 3 => .array .int
  | 4 => .array .int
  | 5 => .array .int
  | 6 => .array .int
  | 7 => .int
  | _ => .int
abbrev wsX30 : List Cond := u_ws RX3 TX3 9
theorem nmX3 : ∀ a, a < 9 → ∀ b, b < 9 → a ≠ b → (TX3 a).2.1 ≠ (TX3 b).2.1 := by decide +kernel
theorem tyX3_ok : ∀ k, k < 9 → parseFieldDescriptor (TX3 k).2.2.1 = some (tyX3 k) := by decide +kernel
abbrev cX3_init : ByteArray := prog_5_method_1_code
def yX3_init : MethodName := ⟨RX3, "<init>", "(LRowUnwinder$Code;)V"⟩
abbrev cX3_init_ : ByteArray := prog_5_method_2_code
def yX3_init_ : MethodName := ⟨RX3, "<init>", "(LRowUnwinder$Machine;)V"⟩
abbrev cX3_levelOf : ByteArray := prog_5_method_3_code
def yX3_levelOf : MethodName := ⟨RX3, "levelOf", "(I)I"⟩
abbrev cX3_latestAddress : ByteArray := prog_5_method_4_code
def yX3_latestAddress : MethodName := ⟨RX3, "latestAddress", "()I"⟩
abbrev cX3_enter : ByteArray := prog_5_method_5_code
def yX3_enter : MethodName := ⟨RX3, "enter", "(I)V"⟩
abbrev cX3_step : ByteArray := prog_5_method_6_code
def yX3_step : MethodName := ⟨RX3, "step", "()V"⟩
abbrev cX3_saveAtLatest : ByteArray := prog_5_method_7_code
def yX3_saveAtLatest : MethodName := ⟨RX3, "saveAtLatest", "()V"⟩
abbrev cX3_leave : ByteArray := prog_5_method_8_code
def yX3_leave : MethodName := ⟨RX3, "leave", "()V"⟩
abbrev cX3_behindBack : ByteArray := prog_5_method_9_code
def yX3_behindBack : MethodName := ⟨RX3, "behindBack", "(III)I"⟩
abbrev cX3_callerOf : ByteArray := prog_5_method_10_code
def yX3_callerOf : MethodName := ⟨RX3, "callerOf", "(II)I"⟩
abbrev cX3_catcherOf : ByteArray := prog_5_method_11_code
def yX3_catcherOf : MethodName := ⟨RX3, "catcherOf", "(I)I"⟩
abbrev cX3_deedAt : ByteArray := prog_5_method_12_code
def yX3_deedAt : MethodName := ⟨RX3, "deedAt", "(III)I"⟩
abbrev cX3_countFinishing : ByteArray := prog_5_method_13_code
def yX3_countFinishing : MethodName := ⟨RX3, "countFinishing", "(II)I"⟩
abbrev cX3_unwindTo : ByteArray := prog_5_method_14_code
def yX3_unwindTo : MethodName := ⟨RX3, "unwindTo", "(II)V"⟩
abbrev cX3_finishAtLatest : ByteArray := prog_5_method_15_code
def yX3_finishAtLatest : MethodName := ⟨RX3, "finishAtLatest", "(II)V"⟩
def RX4 : String := "RowUnwinder$Page"
def TX4 : u_T := fun k => match k with
  | 0 => ("RowUnwinder$Page", "codes", "[I", true)
  | _ => ("RowUnwinder$Page", "length", "I", false)
def tyX4 : Nat → FieldType := fun k => match k with
  | 0 => .array .int
  | _ => .int
abbrev wsX40 : List Cond := u_ws RX4 TX4 2
theorem nmX4 : ∀ a, a < 2 → ∀ b, b < 2 → a ≠ b → (TX4 a).2.1 ≠ (TX4 b).2.1 := by decide +kernel
theorem tyX4_ok : ∀ k, k < 2 → parseFieldDescriptor (TX4 k).2.2.1 = some (tyX4 k) := by decide +kernel
abbrev cX4_init : ByteArray := prog_6_method_1_code
def yX4_init : MethodName := ⟨RX4, "<init>", "()V"⟩
abbrev cX4_write : ByteArray := prog_6_method_2_code
def yX4_write : MethodName := ⟨RX4, "write", "(I)V"⟩
abbrev cX4_codeAt : ByteArray := prog_6_method_3_code
def yX4_codeAt : MethodName := ⟨RX4, "codeAt", "(I)I"⟩
abbrev cX4_digitAt : ByteArray := prog_6_method_4_code
def yX4_digitAt : MethodName := ⟨RX4, "digitAt", "(I)I"⟩
def RX5 : String := "RowUnwinder$Reader"
def TX5 : u_T := fun k => match k with
  | 0 => ("RowUnwinder$Reader", "due", "I", false)
  | 1 => ("RowUnwinder$Reader", "functions", "I", false)
  | 2 => ("RowUnwinder$Reader", "ops", "I", false)
  | 3 => ("RowUnwinder$Reader", "address", "I", false)
  | 4 => ("RowUnwinder$Reader", "remembered", "I", false)
  | 5 => ("RowUnwinder$Reader", "pads", "I", false)
  | _ => ("RowUnwinder$Reader", "from", "I", false)
def tyX5 : Nat → FieldType := fun k => match k with
  | 0 => .int
  | 1 => .int
  | 2 => .int
  | 3 => .int
  | 4 => .int
  | 5 => .int
  | _ => .int
abbrev wsX50 : List Cond := u_ws RX5 TX5 7
theorem nmX5 : ∀ a, a < 7 → ∀ b, b < 7 → a ≠ b → (TX5 a).2.1 ≠ (TX5 b).2.1 := by decide +kernel
theorem tyX5_ok : ∀ k, k < 7 → parseFieldDescriptor (TX5 k).2.2.1 = some (tyX5 k) := by decide +kernel
abbrev cX5_init : ByteArray := prog_7_method_1_code
def yX5_init : MethodName := ⟨RX5, "<init>", "()V"⟩
abbrev cX5_firstFault : ByteArray := prog_7_method_2_code
def yX5_firstFault : MethodName := ⟨RX5, "firstFault", "(LRowUnwinder$Page;)I"⟩
abbrev cX5_mayEnd : ByteArray := prog_7_method_3_code
def yX5_mayEnd : MethodName := ⟨RX5, "mayEnd", "()Z"⟩
abbrev cX5_takes : ByteArray := prog_7_method_4_code
def yX5_takes : MethodName := ⟨RX5, "takes", "(I)Z"⟩
abbrev cX5_takesOp : ByteArray := prog_7_method_5_code
def yX5_takesOp : MethodName := ⟨RX5, "takesOp", "(I)Z"⟩
abbrev cX5_takesOpLetter : ByteArray := prog_7_method_6_code
def yX5_takesOpLetter : MethodName := ⟨RX5, "takesOpLetter", "(I)Z"⟩
abbrev cX5_takesFarther : ByteArray := prog_7_method_7_code
def yX5_takesFarther : MethodName := ⟨RX5, "takesFarther", "(I)Z"⟩
abbrev cX5_takesDigit : ByteArray := prog_7_method_8_code
def yX5_takesDigit : MethodName := ⟨RX5, "takesDigit", "(IIII)Z"⟩
abbrev cX5_takesBetweenPads : ByteArray := prog_7_method_9_code
def yX5_takesBetweenPads : MethodName := ⟨RX5, "takesBetweenPads", "(I)Z"⟩
abbrev cX5_beginFunction : ByteArray := prog_7_method_10_code
def yX5_beginFunction : MethodName := ⟨RX5, "beginFunction", "()V"⟩
def RX6 : String := "RowUnwinder$Scribe"
def TX6 : u_T := fun k => match k with
  | 0 => ("RowUnwinder$Scribe", "page", "LRowUnwinder$Page;", true)
  | 1 => ("RowUnwinder$Scribe", "code", "LRowUnwinder$Code;", true)
  | 2 => ("RowUnwinder$Scribe", "saved", "[I", true)
  | 3 => ("RowUnwinder$Scribe", "remembered", "[I", true)
  | 4 => ("RowUnwinder$Scribe", "depth", "I", false)
  | 5 => ("RowUnwinder$Scribe", "place", "I", false)
  | 6 => ("RowUnwinder$Scribe", "address", "I", false)
  | _ => ("RowUnwinder$Scribe", "opAddress", "I", false)
def tyX6 : Nat → FieldType := fun k => match k with
  | 0 => .object "RowUnwinder$Page"
  | 1 => .object "RowUnwinder$Code"
  | 2 => .array .int
  | 3 => .array .int
  | 4 => .int
  | 5 => .int
  | 6 => .int
  | _ => .int
abbrev wsX60 : List Cond := u_ws RX6 TX6 8
theorem nmX6 : ∀ a, a < 8 → ∀ b, b < 8 → a ≠ b → (TX6 a).2.1 ≠ (TX6 b).2.1 := by decide +kernel
theorem tyX6_ok : ∀ k, k < 8 → parseFieldDescriptor (TX6 k).2.2.1 = some (tyX6 k) := by decide +kernel
abbrev cX6_init : ByteArray := prog_8_method_1_code
def yX6_init : MethodName := ⟨RX6, "<init>", "(LRowUnwinder$Page;LRowUnwinder$Code;)V"⟩
abbrev cX6_writeText : ByteArray := prog_8_method_2_code
def yX6_writeText : MethodName := ⟨RX6, "writeText", "()V"⟩
abbrev cX6_writeProgram : ByteArray := prog_8_method_3_code
def yX6_writeProgram : MethodName := ⟨RX6, "writeProgram", "(I)V"⟩
abbrev cX6_writeOp : ByteArray := prog_8_method_4_code
def yX6_writeOp : MethodName := ⟨RX6, "writeOp", "(I)V"⟩
abbrev cX6_save : ByteArray := prog_8_method_5_code
def yX6_save : MethodName := ⟨RX6, "save", "(III)V"⟩
abbrev cX6_free : ByteArray := prog_8_method_6_code
def yX6_free : MethodName := ⟨RX6, "free", "(I)V"⟩
abbrev cX6_rememberOrGoBack : ByteArray := prog_8_method_7_code
def yX6_rememberOrGoBack : MethodName := ⟨RX6, "rememberOrGoBack", "(I)V"⟩
abbrev cX6_writeRowsTo : ByteArray := prog_8_method_8_code
def yX6_writeRowsTo : MethodName := ⟨RX6, "writeRowsTo", "(II)V"⟩
abbrev cX6_writePads : ByteArray := prog_8_method_9_code
def yX6_writePads : MethodName := ⟨RX6, "writePads", "(I)V"⟩
def RX7 : String := "RowUnwinder$Sights"
def TX7 : u_T := fun k => match k with
  | 0 => ("RowUnwinder$Sights", "slots", "[I", true)
  | 1 => ("RowUnwinder$Sights", "types", "[I", true)
  | 2 => ("RowUnwinder$Sights", "deeds", "[I", true)
  | _ => ("RowUnwinder$Sights", "many", "I", false)
def tyX7 : Nat → FieldType := fun k => match k with
  | 0 => .array .int
  | 1 => .array .int
  | 2 => .array .int
  | _ => .int
abbrev wsX70 : List Cond := u_ws RX7 TX7 4
theorem nmX7 : ∀ a, a < 4 → ∀ b, b < 4 → a ≠ b → (TX7 a).2.1 ≠ (TX7 b).2.1 := by decide +kernel
theorem tyX7_ok : ∀ k, k < 4 → parseFieldDescriptor (TX7 k).2.2.1 = some (tyX7 k) := by decide +kernel
abbrev cX7_init : ByteArray := prog_9_method_1_code
def yX7_init : MethodName := ⟨RX7, "<init>", "()V"⟩
abbrev cX7_note : ByteArray := prog_9_method_2_code
def yX7_note : MethodName := ⟨RX7, "note", "(III)V"⟩
abbrev cX7_sortsOf : ByteArray := prog_9_method_3_code
def yX7_sortsOf : MethodName := ⟨RX7, "sortsOf", "(II)I"⟩
abbrev cX7_canBe : ByteArray := prog_9_method_4_code
def yX7_canBe : MethodName := ⟨RX7, "canBe", "(III)Z"⟩
abbrev cX7_become : ByteArray := prog_9_method_5_code
def yX7_become : MethodName := ⟨RX7, "become", "(LRowUnwinder$Sights;)V"⟩
def RX8 : String := "RowUnwinder"
def TX8 : u_T := fun k => match k with
  | 0 => ("RowUnwinder", "page", "LRowUnwinder$Page;", true)
  | 1 => ("RowUnwinder", "history", "LRowUnwinder$History;", true)
  | 2 => ("RowUnwinder", "keptHistory", "LRowUnwinder$History;", true)
  | 3 => ("RowUnwinder", "sights", "LRowUnwinder$Sights;", true)
  | 4 => ("RowUnwinder", "keptSights", "LRowUnwinder$Sights;", true)
  | 5 => ("RowUnwinder", "machine", "LRowUnwinder$Machine;", false)
  | 6 => ("RowUnwinder", "kept", "LRowUnwinder$Machine;", false)
  | _ => ("RowUnwinder", "textsRead", "I", false)
def tyX8 : Nat → FieldType := fun k => match k with
  | 0 => .object "RowUnwinder$Page"
  | 1 => .object "RowUnwinder$History"
  | 2 => .object "RowUnwinder$History"
  | 3 => .object "RowUnwinder$Sights"
  | 4 => .object "RowUnwinder$Sights"
  | 5 => .object "RowUnwinder$Machine"
  | 6 => .object "RowUnwinder$Machine"
  | _ => .int
abbrev wsX80 : List Cond := u_ws RX8 TX8 8
theorem nmX8 : ∀ a, a < 8 → ∀ b, b < 8 → a ≠ b → (TX8 a).2.1 ≠ (TX8 b).2.1 := by decide +kernel
theorem tyX8_ok : ∀ k, k < 8 → parseFieldDescriptor (TX8 k).2.2.1 = some (tyX8 k) := by decide +kernel
abbrev cX8_init : ByteArray := prog_1_method_1_code
def yX8_init : MethodName := ⟨RX8, "<init>", "()V"⟩
abbrev cX8_letter : ByteArray := prog_1_method_2_code
def yX8_letter : MethodName := ⟨RX8, "letter", "(I)I"⟩
abbrev cX8_blank : ByteArray := prog_1_method_3_code
def yX8_blank : MethodName := ⟨RX8, "blank", "()I"⟩
abbrev cX8_fault : ByteArray := prog_1_method_4_code
def yX8_fault : MethodName := ⟨RX8, "fault", "()I"⟩
abbrev cX8_text : ByteArray := prog_1_method_5_code
def yX8_text : MethodName := ⟨RX8, "text", "()I"⟩
abbrev cX8_row : ByteArray := prog_1_method_6_code
def yX8_row : MethodName := ⟨RX8, "row", "(III)I"⟩
abbrev cX8_pad : ByteArray := prog_1_method_7_code
def yX8_pad : MethodName := ⟨RX8, "pad", "(III)I"⟩
abbrev cX8_as : ByteArray := prog_1_method_8_code
def yX8_as : MethodName := ⟨RX8, "as", "(III)I"⟩
abbrev cX8_frame : ByteArray := prog_1_method_9_code
def yX8_frame : MethodName := ⟨RX8, "frame", "(II)I"⟩
abbrev cX8_register : ByteArray := prog_1_method_10_code
def yX8_register : MethodName := ⟨RX8, "register", "(I)I"⟩
abbrev cX8_call : ByteArray := prog_1_method_11_code
def yX8_call : MethodName := ⟨RX8, "call", "(I)I"⟩
abbrev cX8_go : ByteArray := prog_1_method_12_code
def yX8_go : MethodName := ⟨RX8, "go", "(I)I"⟩
abbrev cX8_set : ByteArray := prog_1_method_13_code
def yX8_set : MethodName := ⟨RX8, "set", "(II)I"⟩
abbrev cX8_back : ByteArray := prog_1_method_14_code
def yX8_back : MethodName := ⟨RX8, "back", "()I"⟩
abbrev cX8_raise : ByteArray := prog_1_method_15_code
def yX8_raise : MethodName := ⟨RX8, "raise", "(I)I"⟩
abbrev cX8_change : ByteArray := prog_1_method_16_code
def yX8_change : MethodName := ⟨RX8, "change", "(III)I"⟩
abbrev cX8_undo : ByteArray := prog_1_method_17_code
def yX8_undo : MethodName := ⟨RX8, "undo", "()I"⟩
abbrev cX8_search : ByteArray := prog_1_method_18_code
def yX8_search : MethodName := ⟨RX8, "search", "(II)I"⟩
abbrev cX8_loose : ByteArray := prog_1_method_19_code
def yX8_loose : MethodName := ⟨RX8, "loose", "()I"⟩
abbrev cX8_finished : ByteArray := prog_1_method_20_code
def yX8_finished : MethodName := ⟨RX8, "finished", "(I)I"⟩
abbrev cX8_same : ByteArray := prog_1_method_21_code
def yX8_same : MethodName := ⟨RX8, "same", "(II)I"⟩
abbrev cX8_see : ByteArray := prog_1_method_22_code
def yX8_see : MethodName := ⟨RX8, "see", "(IIII)I"⟩
abbrev cX8_forget : ByteArray := prog_1_method_23_code
def yX8_forget : MethodName := ⟨RX8, "forget", "()I"⟩
abbrev cX8_drawn : ByteArray := prog_1_method_24_code
def yX8_drawn : MethodName := ⟨RX8, "drawn", "(III)I"⟩
abbrev cX8_image : ByteArray := prog_1_method_25_code
def yX8_image : MethodName := ⟨RX8, "image", "()I"⟩
abbrev cX8_restore : ByteArray := prog_1_method_26_code
def yX8_restore : MethodName := ⟨RX8, "restore", "()I"⟩
abbrev cX8_count : ByteArray := prog_1_method_27_code
def yX8_count : MethodName := ⟨RX8, "count", "(I)I"⟩
abbrev cX8_digest : ByteArray := prog_1_method_28_code
def yX8_digest : MethodName := ⟨RX8, "digest", "()J"⟩
abbrev cX8_digestFunction : ByteArray := prog_1_method_29_code
def yX8_digestFunction : MethodName := ⟨RX8, "digestFunction", "(JI)J"⟩
abbrev cX8_digestThrowing : ByteArray := prog_1_method_30_code
def yX8_digestThrowing : MethodName := ⟨RX8, "digestThrowing", "(J)J"⟩
abbrev cX8_folded : ByteArray := prog_1_method_31_code
def yX8_folded : MethodName := ⟨RX8, "folded", "(JJ)J"⟩
abbrev cX8_hasText : ByteArray := prog_1_method_32_code
def yX8_hasText : MethodName := ⟨RX8, "hasText", "()Z"⟩
abbrev cX8_isFunction : ByteArray := prog_1_method_33_code
def yX8_isFunction : MethodName := ⟨RX8, "isFunction", "(I)Z"⟩
abbrev cX8_isPad : ByteArray := prog_1_method_34_code
def yX8_isPad : MethodName := ⟨RX8, "isPad", "(II)Z"⟩
abbrev cX8_beginDoing : ByteArray := prog_1_method_35_code
def yX8_beginDoing : MethodName := ⟨RX8, "beginDoing", "()V"⟩
abbrev cX8_isBelow : ByteArray := prog_1_method_36_code
def yX8_isBelow : MethodName := ⟨RX8, "isBelow", "(II)Z"⟩
abbrev cX8_slot : ByteArray := prog_1_method_37_code
def yX8_slot : MethodName := ⟨RX8, "slot", "(II)I"⟩
abbrev cX8_kindOfLetter : ByteArray := prog_1_method_38_code
def yX8_kindOfLetter : MethodName := ⟨RX8, "kindOfLetter", "(I)I"⟩
abbrev cX8_isOfKind : ByteArray := prog_1_method_39_code
def yX8_isOfKind : MethodName := ⟨RX8, "isOfKind", "(II)Z"⟩
abbrev cX8_deedOf : ByteArray := prog_1_method_40_code
def yX8_deedOf : MethodName := ⟨RX8, "deedOf", "(III)I"⟩
abbrev cX8_bestToThrow : ByteArray := prog_1_method_41_code
def yX8_bestToThrow : MethodName := ⟨RX8, "bestToThrow", "(II)I"⟩
abbrev cX8_leftAtWorst : ByteArray := prog_1_method_42_code
def yX8_leftAtWorst : MethodName := ⟨RX8, "leftAtWorst", "(III)I"⟩
def RX9 : String := "RowUnwinderModel"
def TX9 : u_T := fun k => match k with
  | 0 => ("RowUnwinderModel", "page", "[I", true)
  | 1 => ("RowUnwinderModel", "pageMany", "I", false)
  | 2 => ("RowUnwinderModel", "readMany", "I", false)
  | 3 => ("RowUnwinderModel", "readOps", "I", false)
  | 4 => ("RowUnwinderModel", "readPads", "I", false)
  | 5 => ("RowUnwinderModel", "readIsPads", "Z", false)
  | 6 => ("RowUnwinderModel", "readPlace", "I", false)
  | 7 => ("RowUnwinderModel", "readOp", "I", false)
  | 8 => ("RowUnwinderModel", "readAddress", "I", false)
  | 9 => ("RowUnwinderModel", "readLying", "I", false)
  | 10 => ("RowUnwinderModel", "readOpMany", "[I", true)
  | 11 => ("RowUnwinderModel", "readPadMany", "[I", true)
  | 12 => ("RowUnwinderModel", "readOpAll", "[I", true)
  | 13 => ("RowUnwinderModel", "readPadAll", "[I", true)
  | 14 => ("RowUnwinderModel", "functions", "I", false)
  | 15 => ("RowUnwinderModel", "textsRead", "I", false)
  | 16 => ("RowUnwinderModel", "saved", "[I", true)
  | 17 => ("RowUnwinderModel", "lying", "[I", true)
  | 18 => ("RowUnwinderModel", "changedAt", "[I", true)
  | 19 => ("RowUnwinderModel", "opMany", "[I", true)
  | 20 => ("RowUnwinderModel", "padMany", "[I", true)
  | 21 => ("RowUnwinderModel", "ops", "[I", true)
  | 22 => ("RowUnwinderModel", "pads", "[I", true)
  | 23 => ("RowUnwinderModel", "rows", "[I", true)
  | 24 => ("RowUnwinderModel", "rowsLying", "I", false)
  | 25 => ("RowUnwinderModel", "now", "[I", true)
  | 26 => ("RowUnwinderModel", "undone", "[I", true)
  | 27 => ("RowUnwinderModel", "undoMany", "I", false)
  | 28 => ("RowUnwinderModel", "catcher", "I", false)
  | 29 => ("RowUnwinderModel", "catcherPad", "I", false)
  | 30 => ("RowUnwinderModel", "finishers", "I", false)
  | 31 => ("RowUnwinderModel", "seenMany", "I", false)
  | 32 => ("RowUnwinderModel", "sights", "[I", true)
  | 33 => ("RowUnwinderModel", "seedNow", "I", false)
  | 34 => ("RowUnwinderModel", "then", "[I", true)
  | 35 => ("RowUnwinderModel", "keptText", "I", false)
  | 36 => ("RowUnwinderModel", "keptUndo", "I", false)
  | 37 => ("RowUnwinderModel", "keptSeen", "I", false)
  | 38 => ("RowUnwinderModel", "keptNow", "[I", true)
  | 39 => ("RowUnwinderModel", "keptUndone", "[I", true)
  | 40 => ("RowUnwinderModel", "keptSights", "[I", true)
  | _ => ("RowUnwinderModel", "hash", "J", false)
def tyX9 : Nat → FieldType := fun k => match k with
  | 0 => .array .int
  | 1 => .int
  | 2 => .int
  | 3 => .int
  | 4 => .int
  | 5 => .boolean
  | 6 => .int
  | 7 => .int
  | 8 => .int
  | 9 => .int
  | 10 => .array .int
  | 11 => .array .int
  | 12 => .array .int
  | 13 => .array .int
  | 14 => .int
  | 15 => .int
  | 16 => .array .int
  | 17 => .array .int
  | 18 => .array .int
  | 19 => .array .int
  | 20 => .array .int
  | 21 => .array .int
  | 22 => .array .int
  | 23 => .array .int
  | 24 => .int
  | 25 => .array .int
  | 26 => .array .int
  | 27 => .int
  | 28 => .int
  | 29 => .int
  | 30 => .int
  | 31 => .int
  | 32 => .array .int
  | 33 => .int
  | 34 => .array .int
  | 35 => .int
  | 36 => .int
  | 37 => .int
  | 38 => .array .int
  | 39 => .array .int
  | 40 => .array .int
  | _ => .long
abbrev wsX90 : List Cond := u_ws RX9 TX9 42
theorem nmX9 : ∀ a, a < 42 → ∀ b, b < 42 → a ≠ b → (TX9 a).2.1 ≠ (TX9 b).2.1 := by decide +kernel
theorem tyX9_ok : ∀ k, k < 42 → parseFieldDescriptor (TX9 k).2.2.1 = some (tyX9 k) := by decide +kernel
abbrev cX9_init : ByteArray := prog_11_method_1_code
def yX9_init : MethodName := ⟨RX9, "<init>", "()V"⟩
abbrev cX9_in : ByteArray := prog_11_method_2_code
def yX9_in : MethodName := ⟨RX9, "in", "(JJJ)Z"⟩
abbrev cX9_letter : ByteArray := prog_11_method_3_code
def yX9_letter : MethodName := ⟨RX9, "letter", "(I)I"⟩
abbrev cX9_blank : ByteArray := prog_11_method_4_code
def yX9_blank : MethodName := ⟨RX9, "blank", "()I"⟩
abbrev cX9_kindBy : ByteArray := prog_11_method_5_code
def yX9_kindBy : MethodName := ⟨RX9, "kindBy", "(I)I"⟩
abbrev cX9_beginFunction : ByteArray := prog_11_method_6_code
def yX9_beginFunction : MethodName := ⟨RX9, "beginFunction", "()V"⟩
abbrev cX9_digitsOf : ByteArray := prog_11_method_7_code
def yX9_digitsOf : MethodName := ⟨RX9, "digitsOf", "(I)I"⟩
abbrev cX9_endOp : ByteArray := prog_11_method_8_code
def yX9_endOp : MethodName := ⟨RX9, "endOp", "()V"⟩
abbrev cX9_isOpBegun : ByteArray := prog_11_method_9_code
def yX9_isOpBegun : MethodName := ⟨RX9, "isOpBegun", "(I)Z"⟩
abbrev cX9_isOpDigit : ByteArray := prog_11_method_10_code
def yX9_isOpDigit : MethodName := ⟨RX9, "isOpDigit", "(I)Z"⟩
abbrev cX9_isPadBegun : ByteArray := prog_11_method_11_code
def yX9_isPadBegun : MethodName := ⟨RX9, "isPadBegun", "(I)Z"⟩
abbrev cX9_isPadDigit : ByteArray := prog_11_method_12_code
def yX9_isPadDigit : MethodName := ⟨RX9, "isPadDigit", "(I)Z"⟩
abbrev cX9_isGood : ByteArray := prog_11_method_13_code
def yX9_isGood : MethodName := ⟨RX9, "isGood", "(I)Z"⟩
abbrev cX9_faultOf : ByteArray := prog_11_method_14_code
def yX9_faultOf : MethodName := ⟨RX9, "faultOf", "()I"⟩
abbrev cX9_fault : ByteArray := prog_11_method_15_code
def yX9_fault : MethodName := ⟨RX9, "fault", "()I"⟩
abbrev cX9_copy : ByteArray := prog_11_method_16_code
def yX9_copy : MethodName := ⟨RX9, "copy", "([I[I)V"⟩
abbrev cX9_doOp : ByteArray := prog_11_method_17_code
def yX9_doOp : MethodName := ⟨RX9, "doOp", "(II)V"⟩
abbrev cX9_layFunction : ByteArray := prog_11_method_18_code
def yX9_layFunction : MethodName := ⟨RX9, "layFunction", "(I)V"⟩
abbrev cX9_text : ByteArray := prog_11_method_19_code
def yX9_text : MethodName := ⟨RX9, "text", "()I"⟩
abbrev cX9_lacks : ByteArray := prog_11_method_20_code
def yX9_lacks : MethodName := ⟨RX9, "lacks", "()Z"⟩
abbrev cX9_isFunction : ByteArray := prog_11_method_21_code
def yX9_isFunction : MethodName := ⟨RX9, "isFunction", "(I)Z"⟩
abbrev cX9_isPad : ByteArray := prog_11_method_22_code
def yX9_isPad : MethodName := ⟨RX9, "isPad", "(II)Z"⟩
abbrev cX9_keep : ByteArray := prog_11_method_23_code
def yX9_keep : MethodName := ⟨RX9, "keep", "()V"⟩
abbrev cX9_undo : ByteArray := prog_11_method_24_code
def yX9_undo : MethodName := ⟨RX9, "undo", "()I"⟩
abbrev cX9_frames : ByteArray := prog_11_method_25_code
def yX9_frames : MethodName := ⟨RX9, "frames", "()I"⟩
abbrev cX9_frameAt : ByteArray := prog_11_method_26_code
def yX9_frameAt : MethodName := ⟨RX9, "frameAt", "(I)I"⟩
abbrev cX9_saveAt : ByteArray := prog_11_method_27_code
def yX9_saveAt : MethodName := ⟨RX9, "saveAt", "(I)V"⟩
abbrev cX9_doCall : ByteArray := prog_11_method_28_code
def yX9_doCall : MethodName := ⟨RX9, "doCall", "(I)V"⟩
abbrev cX9_doGo : ByteArray := prog_11_method_29_code
def yX9_doGo : MethodName := ⟨RX9, "doGo", "(I)V"⟩
abbrev cX9_doBack : ByteArray := prog_11_method_30_code
def yX9_doBack : MethodName := ⟨RX9, "doBack", "()V"⟩
abbrev cX9_call : ByteArray := prog_11_method_31_code
def yX9_call : MethodName := ⟨RX9, "call", "(I)I"⟩
abbrev cX9_go : ByteArray := prog_11_method_32_code
def yX9_go : MethodName := ⟨RX9, "go", "(I)I"⟩
abbrev cX9_set : ByteArray := prog_11_method_33_code
def yX9_set : MethodName := ⟨RX9, "set", "(II)I"⟩
abbrev cX9_back : ByteArray := prog_11_method_34_code
def yX9_back : MethodName := ⟨RX9, "back", "()I"⟩
abbrev cX9_isCatching : ByteArray := prog_11_method_35_code
def yX9_isCatching : MethodName := ⟨RX9, "isCatching", "(III)Z"⟩
abbrev cX9_does : ByteArray := prog_11_method_36_code
def yX9_does : MethodName := ⟨RX9, "does", "(III)I"⟩
abbrev cX9_doesAt : ByteArray := prog_11_method_37_code
def yX9_doesAt : MethodName := ⟨RX9, "doesAt", "(IIII)I"⟩
abbrev cX9_layCatcher : ByteArray := prog_11_method_38_code
def yX9_layCatcher : MethodName := ⟨RX9, "layCatcher", "(I)V"⟩
abbrev cX9_searchOf : ByteArray := prog_11_method_39_code
def yX9_searchOf : MethodName := ⟨RX9, "searchOf", "(II)I"⟩
abbrev cX9_search : ByteArray := prog_11_method_40_code
def yX9_search : MethodName := ⟨RX9, "search", "(II)I"⟩
abbrev cX9_finish : ByteArray := prog_11_method_41_code
def yX9_finish : MethodName := ⟨RX9, "finish", "(II)V"⟩
abbrev cX9_doRaise : ByteArray := prog_11_method_42_code
def yX9_doRaise : MethodName := ⟨RX9, "doRaise", "(I)V"⟩
abbrev cX9_raise : ByteArray := prog_11_method_43_code
def yX9_raise : MethodName := ⟨RX9, "raise", "(I)I"⟩
abbrev cX9_looseOf : ByteArray := prog_11_method_44_code
def yX9_looseOf : MethodName := ⟨RX9, "looseOf", "()I"⟩
abbrev cX9_loose : ByteArray := prog_11_method_45_code
def yX9_loose : MethodName := ⟨RX9, "loose", "()I"⟩
abbrev cX9_finished : ByteArray := prog_11_method_46_code
def yX9_finished : MethodName := ⟨RX9, "finished", "(I)I"⟩
abbrev cX9_change : ByteArray := prog_11_method_47_code
def yX9_change : MethodName := ⟨RX9, "change", "(III)I"⟩
abbrev cX9_tellRow : ByteArray := prog_11_method_48_code
def yX9_tellRow : MethodName := ⟨RX9, "tellRow", "(III)I"⟩
abbrev cX9_row : ByteArray := prog_11_method_49_code
def yX9_row : MethodName := ⟨RX9, "row", "(III)I"⟩
abbrev cX9_tellPad : ByteArray := prog_11_method_50_code
def yX9_tellPad : MethodName := ⟨RX9, "tellPad", "(III)I"⟩
abbrev cX9_pad : ByteArray := prog_11_method_51_code
def yX9_pad : MethodName := ⟨RX9, "pad", "(III)I"⟩
abbrev cX9_as : ByteArray := prog_11_method_52_code
def yX9_as : MethodName := ⟨RX9, "as", "(III)I"⟩
abbrev cX9_callerOf : ByteArray := prog_11_method_53_code
def yX9_callerOf : MethodName := ⟨RX9, "callerOf", "(II)I"⟩
abbrev cX9_tellFrame : ByteArray := prog_11_method_54_code
def yX9_tellFrame : MethodName := ⟨RX9, "tellFrame", "(II)I"⟩
abbrev cX9_frame : ByteArray := prog_11_method_55_code
def yX9_frame : MethodName := ⟨RX9, "frame", "(II)I"⟩
abbrev cX9_register : ByteArray := prog_11_method_56_code
def yX9_register : MethodName := ⟨RX9, "register", "(I)I"⟩
abbrev cX9_same : ByteArray := prog_11_method_57_code
def yX9_same : MethodName := ⟨RX9, "same", "(II)I"⟩
abbrev cX9_see : ByteArray := prog_11_method_58_code
def yX9_see : MethodName := ⟨RX9, "see", "(IIII)I"⟩
abbrev cX9_forget : ByteArray := prog_11_method_59_code
def yX9_forget : MethodName := ⟨RX9, "forget", "()I"⟩
abbrev cX9_sortsOf : ByteArray := prog_11_method_60_code
def yX9_sortsOf : MethodName := ⟨RX9, "sortsOf", "(II)I"⟩
abbrev cX9_askOf : ByteArray := prog_11_method_61_code
def yX9_askOf : MethodName := ⟨RX9, "askOf", "(II)I"⟩
abbrev cX9_draw : ByteArray := prog_11_method_62_code
def yX9_draw : MethodName := ⟨RX9, "draw", "(I)I"⟩
abbrev cX9_drawCall : ByteArray := prog_11_method_63_code
def yX9_drawCall : MethodName := ⟨RX9, "drawCall", "()V"⟩
abbrev cX9_drawGo : ByteArray := prog_11_method_64_code
def yX9_drawGo : MethodName := ⟨RX9, "drawGo", "()V"⟩
abbrev cX9_drawSet : ByteArray := prog_11_method_65_code
def yX9_drawSet : MethodName := ⟨RX9, "drawSet", "()V"⟩
abbrev cX9_drawRaise : ByteArray := prog_11_method_66_code
def yX9_drawRaise : MethodName := ⟨RX9, "drawRaise", "()I"⟩
abbrev cX9_drawOne : ByteArray := prog_11_method_67_code
def yX9_drawOne : MethodName := ⟨RX9, "drawOne", "()I"⟩
abbrev cX9_drawn : ByteArray := prog_11_method_68_code
def yX9_drawn : MethodName := ⟨RX9, "drawn", "(III)I"⟩
abbrev cX9_image : ByteArray := prog_11_method_69_code
def yX9_image : MethodName := ⟨RX9, "image", "()I"⟩
abbrev cX9_restore : ByteArray := prog_11_method_70_code
def yX9_restore : MethodName := ⟨RX9, "restore", "()I"⟩
abbrev cX9_padsAll : ByteArray := prog_11_method_71_code
def yX9_padsAll : MethodName := ⟨RX9, "padsAll", "()I"⟩
abbrev cX9_savedMany : ByteArray := prog_11_method_72_code
def yX9_savedMany : MethodName := ⟨RX9, "savedMany", "()I"⟩
abbrev cX9_countOf : ByteArray := prog_11_method_73_code
def yX9_countOf : MethodName := ⟨RX9, "countOf", "(I)I"⟩
abbrev cX9_count : ByteArray := prog_11_method_74_code
def yX9_count : MethodName := ⟨RX9, "count", "(I)I"⟩
abbrev cX9_say : ByteArray := prog_11_method_75_code
def yX9_say : MethodName := ⟨RX9, "say", "(J)V"⟩
abbrev cX9_sayFunction : ByteArray := prog_11_method_76_code
def yX9_sayFunction : MethodName := ⟨RX9, "sayFunction", "(I)V"⟩
abbrev cX9_sayText : ByteArray := prog_11_method_77_code
def yX9_sayText : MethodName := ⟨RX9, "sayText", "()V"⟩
abbrev cX9_digest : ByteArray := prog_11_method_78_code
def yX9_digest : MethodName := ⟨RX9, "digest", "()J"⟩
def RJx8e188 : String := "java/lang/Cloneable"
def RJ9 : String := "java/lang/Math"
abbrev cJ9_max_7cf53 : ByteArray := prog_13_method_65_code
def yJ9_max_7cf53 : MethodName := ⟨RJ9, "max", "(II)I"⟩
abbrev cJ9_min_7cf53 : ByteArray := prog_13_method_69_code
def yJ9_min_7cf53 : MethodName := ⟨RJ9, "min", "(II)I"⟩
def RJ10 : String := "java/lang/System"
def RJ7 : String := "java/util/Arrays"
abbrev cJ7_fill_53178 : ByteArray := prog_15_method_103_code
def yJ7_fill_53178 : MethodName := ⟨RJ7, "fill", "([II)V"⟩
def RL : String := "RowUnwinderLaw"
abbrev cL_law : ByteArray := code
def yL_law : MethodName := ⟨RL, "law", "([I)Z"⟩
