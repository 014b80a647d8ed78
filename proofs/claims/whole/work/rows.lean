section
-- ===== PART A: goes FIRST, ahead of the names: the tables' words, and 'selects' of the private methods out of them =====
/-- a private method of a class that the tables say can be made, by its rows of tables_1 -/
def lw_okq (q : MethodName × Nat) : Prop := (q.1.cls ≠ "java/lang/invoke/MethodHandle" ∧ q.1.cls ≠ "java/lang/invoke/VarHandle") ∧ Cond.instantiable q.1.cls q.2 ∈ tables_1 ∧ Cond.privateMethod q.1 ∈ tables_1 ∧ Cond.instanceMethod q.1 ∈ tables_1
theorem lw_p0 : lw_okq (⟨"EscapeCells$Storey", "layCell", "(II)V"⟩, 12) := ⟨⟨by decide +kernel, by decide +kernel⟩, List.mem_of_getElem? (i := 25) (by decide +kernel), List.mem_of_getElem? (i := 43) (by decide +kernel), List.mem_of_getElem? (i := 44) (by decide +kernel)⟩
theorem lw_p1 : lw_okq (⟨"EscapeCells$Numbers", "find", "(I[I)V"⟩, 4) := ⟨⟨by decide +kernel, by decide +kernel⟩, List.mem_of_getElem? (i := 109) (by decide +kernel), List.mem_of_getElem? (i := 286) (by decide +kernel), List.mem_of_getElem? (i := 287) (by decide +kernel)⟩
theorem lw_p2 : lw_okq (⟨"EscapeCells$Numbers", "spread", "(I[II)I"⟩, 4) := ⟨⟨by decide +kernel, by decide +kernel⟩, List.mem_of_getElem? (i := 109) (by decide +kernel), List.mem_of_getElem? (i := 291) (by decide +kernel), List.mem_of_getElem? (i := 292) (by decide +kernel)⟩
theorem lw_p3 : lw_okq (⟨"EscapeCells$Flight", "begin", "()V"⟩, 19) := ⟨⟨by decide +kernel, by decide +kernel⟩, List.mem_of_getElem? (i := 166) (by decide +kernel), List.mem_of_getElem? (i := 316) (by decide +kernel), List.mem_of_getElem? (i := 317) (by decide +kernel)⟩
theorem lw_p4 : lw_okq (⟨"EscapeCells$Flight", "goalOf", "(I)I"⟩, 19) := ⟨⟨by decide +kernel, by decide +kernel⟩, List.mem_of_getElem? (i := 166) (by decide +kernel), List.mem_of_getElem? (i := 324) (by decide +kernel), List.mem_of_getElem? (i := 325) (by decide +kernel)⟩
theorem lw_p5 : lw_okq (⟨"EscapeCells$Flight", "nextChange", "(I)I"⟩, 19) := ⟨⟨by decide +kernel, by decide +kernel⟩, List.mem_of_getElem? (i := 166) (by decide +kernel), List.mem_of_getElem? (i := 332) (by decide +kernel), List.mem_of_getElem? (i := 333) (by decide +kernel)⟩
theorem lw_p6 : lw_okq (⟨"EscapeCells$Flight", "endInSmoke", "(I)Z"⟩, 19) := ⟨⟨by decide +kernel, by decide +kernel⟩, List.mem_of_getElem? (i := 166) (by decide +kernel), List.mem_of_getElem? (i := 338) (by decide +kernel), List.mem_of_getElem? (i := 339) (by decide +kernel)⟩
theorem lw_p7 : lw_okq (⟨"EscapeCells$Flight", "end", "(III)V"⟩, 19) := ⟨⟨by decide +kernel, by decide +kernel⟩, List.mem_of_getElem? (i := 166) (by decide +kernel), List.mem_of_getElem? (i := 346) (by decide +kernel), List.mem_of_getElem? (i := 347) (by decide +kernel)⟩
theorem lw_p8 : lw_okq (⟨"EscapeCells$Flight", "stepAll", "(I)Z"⟩, 19) := ⟨⟨by decide +kernel, by decide +kernel⟩, List.mem_of_getElem? (i := 166) (by decide +kernel), List.mem_of_getElem? (i := 350) (by decide +kernel), List.mem_of_getElem? (i := 351) (by decide +kernel)⟩
theorem lw_p9 : lw_okq (⟨"EscapeCells$Flight", "lineUp", "(I)I"⟩, 19) := ⟨⟨by decide +kernel, by decide +kernel⟩, List.mem_of_getElem? (i := 166) (by decide +kernel), List.mem_of_getElem? (i := 354) (by decide +kernel), List.mem_of_getElem? (i := 355) (by decide +kernel)⟩
theorem lw_p10 : lw_okq (⟨"EscapeCells$Flight", "numberOf", "(I)I"⟩, 19) := ⟨⟨by decide +kernel, by decide +kernel⟩, List.mem_of_getElem? (i := 166) (by decide +kernel), List.mem_of_getElem? (i := 358) (by decide +kernel), List.mem_of_getElem? (i := 359) (by decide +kernel)⟩
theorem lw_p11 : lw_okq (⟨"EscapeCells$Flight", "stepOne", "(II)Z"⟩, 19) := ⟨⟨by decide +kernel, by decide +kernel⟩, List.mem_of_getElem? (i := 166) (by decide +kernel), List.mem_of_getElem? (i := 362) (by decide +kernel), List.mem_of_getElem? (i := 363) (by decide +kernel)⟩
theorem lw_p12 : lw_okq (⟨"EscapeCells$Flight", "mayEnter", "(II)Z"⟩, 19) := ⟨⟨by decide +kernel, by decide +kernel⟩, List.mem_of_getElem? (i := 166) (by decide +kernel), List.mem_of_getElem? (i := 367) (by decide +kernel), List.mem_of_getElem? (i := 368) (by decide +kernel)⟩
theorem lw_p13 : lw_okq (⟨"EscapeCells$Flight", "cameIn", "(II)I"⟩, 19) := ⟨⟨by decide +kernel, by decide +kernel⟩, List.mem_of_getElem? (i := 166) (by decide +kernel), List.mem_of_getElem? (i := 375) (by decide +kernel), List.mem_of_getElem? (i := 376) (by decide +kernel)⟩
theorem lw_p14 : lw_okq (⟨"EscapeCells$Flight", "move", "(III)V"⟩, 19) := ⟨⟨by decide +kernel, by decide +kernel⟩, List.mem_of_getElem? (i := 166) (by decide +kernel), List.mem_of_getElem? (i := 379) (by decide +kernel), List.mem_of_getElem? (i := 380) (by decide +kernel)⟩
theorem lw_p15 : lw_okq (⟨"EscapeCells$Signposts", "isTurn", "(I[I)Z"⟩, 5) := ⟨⟨by decide +kernel, by decide +kernel⟩, List.mem_of_getElem? (i := 237) (by decide +kernel), List.mem_of_getElem? (i := 391) (by decide +kernel), List.mem_of_getElem? (i := 392) (by decide +kernel)⟩
def lw_privs_1 : List (MethodName × Nat) := [(⟨"EscapeCells$Storey", "layCell", "(II)V"⟩, 12), (⟨"EscapeCells$Numbers", "find", "(I[I)V"⟩, 4), (⟨"EscapeCells$Numbers", "spread", "(I[II)I"⟩, 4), (⟨"EscapeCells$Flight", "begin", "()V"⟩, 19), (⟨"EscapeCells$Flight", "goalOf", "(I)I"⟩, 19), (⟨"EscapeCells$Flight", "nextChange", "(I)I"⟩, 19), (⟨"EscapeCells$Flight", "endInSmoke", "(I)Z"⟩, 19), (⟨"EscapeCells$Flight", "end", "(III)V"⟩, 19), (⟨"EscapeCells$Flight", "stepAll", "(I)Z"⟩, 19), (⟨"EscapeCells$Flight", "lineUp", "(I)I"⟩, 19), (⟨"EscapeCells$Flight", "numberOf", "(I)I"⟩, 19), (⟨"EscapeCells$Flight", "stepOne", "(II)Z"⟩, 19), (⟨"EscapeCells$Flight", "mayEnter", "(II)Z"⟩, 19), (⟨"EscapeCells$Flight", "cameIn", "(II)I"⟩, 19), (⟨"EscapeCells$Flight", "move", "(III)V"⟩, 19), (⟨"EscapeCells$Signposts", "isTurn", "(I[I)Z"⟩, 5)]
theorem lw_r1 : ∀ q ∈ lw_privs_1, lw_okq q := List.forall_mem_cons.mpr ⟨lw_p0, List.forall_mem_cons.mpr ⟨lw_p1, List.forall_mem_cons.mpr ⟨lw_p2, List.forall_mem_cons.mpr ⟨lw_p3, List.forall_mem_cons.mpr ⟨lw_p4, List.forall_mem_cons.mpr ⟨lw_p5, List.forall_mem_cons.mpr ⟨lw_p6, List.forall_mem_cons.mpr ⟨lw_p7, List.forall_mem_cons.mpr ⟨lw_p8, List.forall_mem_cons.mpr ⟨lw_p9, List.forall_mem_cons.mpr ⟨lw_p10, List.forall_mem_cons.mpr ⟨lw_p11, List.forall_mem_cons.mpr ⟨lw_p12, List.forall_mem_cons.mpr ⟨lw_p13, List.forall_mem_cons.mpr ⟨lw_p14, List.forall_mem_cons.mpr ⟨lw_p15, fun _ h => absurd h List.not_mem_nil⟩⟩⟩⟩⟩⟩⟩⟩⟩⟩⟩⟩⟩⟩⟩⟩
theorem lw_p16 : lw_okq (⟨"EscapeCells$Signposts", "showTurns", "(I)V"⟩, 5) := ⟨⟨by decide +kernel, by decide +kernel⟩, List.mem_of_getElem? (i := 237) (by decide +kernel), List.mem_of_getElem? (i := 404) (by decide +kernel), List.mem_of_getElem? (i := 405) (by decide +kernel)⟩
theorem lw_p17 : lw_okq (⟨"EscapeCells$Signposts", "showBeside", "(II)V"⟩, 5) := ⟨⟨by decide +kernel, by decide +kernel⟩, List.mem_of_getElem? (i := 237) (by decide +kernel), List.mem_of_getElem? (i := 409) (by decide +kernel), List.mem_of_getElem? (i := 410) (by decide +kernel)⟩
theorem lw_p18 : lw_okq (⟨"EscapeCells$Signposts", "listShowings", "()I"⟩, 5) := ⟨⟨by decide +kernel, by decide +kernel⟩, List.mem_of_getElem? (i := 237) (by decide +kernel), List.mem_of_getElem? (i := 413) (by decide +kernel), List.mem_of_getElem? (i := 414) (by decide +kernel)⟩
theorem lw_p19 : lw_okq (⟨"EscapeCells$Signposts", "isListed", "(II)Z"⟩, 5) := ⟨⟨by decide +kernel, by decide +kernel⟩, List.mem_of_getElem? (i := 237) (by decide +kernel), List.mem_of_getElem? (i := 417) (by decide +kernel), List.mem_of_getElem? (i := 418) (by decide +kernel)⟩
theorem lw_p20 : lw_okq (⟨"EscapeCells$Signposts", "leastOf", "(II)I"⟩, 5) := ⟨⟨by decide +kernel, by decide +kernel⟩, List.mem_of_getElem? (i := 237) (by decide +kernel), List.mem_of_getElem? (i := 421) (by decide +kernel), List.mem_of_getElem? (i := 422) (by decide +kernel)⟩
theorem lw_p21 : lw_okq (⟨"java/lang/Throwable", "fillInStackTrace", "(I)Ljava/lang/Throwable;"⟩, 6) := ⟨⟨by decide +kernel, by decide +kernel⟩, List.mem_of_getElem? (i := 476) (by decide +kernel), List.mem_of_getElem? (i := 474) (by decide +kernel), List.mem_of_getElem? (i := 475) (by decide +kernel)⟩
theorem lw_p22 : lw_okq (⟨"EscapeCells$Flight", "isInCellBehind", "(II)Z"⟩, 19) := ⟨⟨by decide +kernel, by decide +kernel⟩, List.mem_of_getElem? (i := 166) (by decide +kernel), List.mem_of_getElem? (i := 630) (by decide +kernel), List.mem_of_getElem? (i := 631) (by decide +kernel)⟩
theorem lw_p23 : lw_okq (⟨"EscapeCellsModel", "isCell", "(II)Z"⟩, 31) := ⟨⟨by decide +kernel, by decide +kernel⟩, List.mem_of_getElem? (i := 653) (by decide +kernel), List.mem_of_getElem? (i := 762) (by decide +kernel), List.mem_of_getElem? (i := 763) (by decide +kernel)⟩
theorem lw_p24 : lw_okq (⟨"EscapeCellsModel", "hasPerson", "(I)Z"⟩, 31) := ⟨⟨by decide +kernel, by decide +kernel⟩, List.mem_of_getElem? (i := 653) (by decide +kernel), List.mem_of_getElem? (i := 769) (by decide +kernel), List.mem_of_getElem? (i := 770) (by decide +kernel)⟩
theorem lw_p25 : lw_okq (⟨"EscapeCellsModel", "refuses", "(I)Z"⟩, 31) := ⟨⟨by decide +kernel, by decide +kernel⟩, List.mem_of_getElem? (i := 653) (by decide +kernel), List.mem_of_getElem? (i := 773) (by decide +kernel), List.mem_of_getElem? (i := 774) (by decide +kernel)⟩
theorem lw_p26 : lw_okq (⟨"EscapeCellsModel", "changed", "()V"⟩, 31) := ⟨⟨by decide +kernel, by decide +kernel⟩, List.mem_of_getElem? (i := 653) (by decide +kernel), List.mem_of_getElem? (i := 777) (by decide +kernel), List.mem_of_getElem? (i := 778) (by decide +kernel)⟩
theorem lw_p27 : lw_okq (⟨"EscapeCellsModel", "learn", "()V"⟩, 31) := ⟨⟨by decide +kernel, by decide +kernel⟩, List.mem_of_getElem? (i := 653) (by decide +kernel), List.mem_of_getElem? (i := 805) (by decide +kernel), List.mem_of_getElem? (i := 806) (by decide +kernel)⟩
theorem lw_p28 : lw_okq (⟨"EscapeCellsModel", "find", "(I)V"⟩, 31) := ⟨⟨by decide +kernel, by decide +kernel⟩, List.mem_of_getElem? (i := 653) (by decide +kernel), List.mem_of_getElem? (i := 809) (by decide +kernel), List.mem_of_getElem? (i := 810) (by decide +kernel)⟩
theorem lw_p29 : lw_okq (⟨"EscapeCellsModel", "isGoal", "(II)Z"⟩, 31) := ⟨⟨by decide +kernel, by decide +kernel⟩, List.mem_of_getElem? (i := 653) (by decide +kernel), List.mem_of_getElem? (i := 813) (by decide +kernel), List.mem_of_getElem? (i := 814) (by decide +kernel)⟩
theorem lw_p30 : lw_okq (⟨"EscapeCellsModel", "beside", "(II)I"⟩, 31) := ⟨⟨by decide +kernel, by decide +kernel⟩, List.mem_of_getElem? (i := 653) (by decide +kernel), List.mem_of_getElem? (i := 817) (by decide +kernel), List.mem_of_getElem? (i := 818) (by decide +kernel)⟩
theorem lw_p31 : lw_okq (⟨"EscapeCellsModel", "numberOf", "(II)I"⟩, 31) := ⟨⟨by decide +kernel, by decide +kernel⟩, List.mem_of_getElem? (i := 653) (by decide +kernel), List.mem_of_getElem? (i := 821) (by decide +kernel), List.mem_of_getElem? (i := 822) (by decide +kernel)⟩
def lw_privs_2 : List (MethodName × Nat) := [(⟨"EscapeCells$Signposts", "showTurns", "(I)V"⟩, 5), (⟨"EscapeCells$Signposts", "showBeside", "(II)V"⟩, 5), (⟨"EscapeCells$Signposts", "listShowings", "()I"⟩, 5), (⟨"EscapeCells$Signposts", "isListed", "(II)Z"⟩, 5), (⟨"EscapeCells$Signposts", "leastOf", "(II)I"⟩, 5), (⟨"java/lang/Throwable", "fillInStackTrace", "(I)Ljava/lang/Throwable;"⟩, 6), (⟨"EscapeCells$Flight", "isInCellBehind", "(II)Z"⟩, 19), (⟨"EscapeCellsModel", "isCell", "(II)Z"⟩, 31), (⟨"EscapeCellsModel", "hasPerson", "(I)Z"⟩, 31), (⟨"EscapeCellsModel", "refuses", "(I)Z"⟩, 31), (⟨"EscapeCellsModel", "changed", "()V"⟩, 31), (⟨"EscapeCellsModel", "learn", "()V"⟩, 31), (⟨"EscapeCellsModel", "find", "(I)V"⟩, 31), (⟨"EscapeCellsModel", "isGoal", "(II)Z"⟩, 31), (⟨"EscapeCellsModel", "beside", "(II)I"⟩, 31), (⟨"EscapeCellsModel", "numberOf", "(II)I"⟩, 31)]
theorem lw_r2 : ∀ q ∈ lw_privs_2, lw_okq q := List.forall_mem_cons.mpr ⟨lw_p16, List.forall_mem_cons.mpr ⟨lw_p17, List.forall_mem_cons.mpr ⟨lw_p18, List.forall_mem_cons.mpr ⟨lw_p19, List.forall_mem_cons.mpr ⟨lw_p20, List.forall_mem_cons.mpr ⟨lw_p21, List.forall_mem_cons.mpr ⟨lw_p22, List.forall_mem_cons.mpr ⟨lw_p23, List.forall_mem_cons.mpr ⟨lw_p24, List.forall_mem_cons.mpr ⟨lw_p25, List.forall_mem_cons.mpr ⟨lw_p26, List.forall_mem_cons.mpr ⟨lw_p27, List.forall_mem_cons.mpr ⟨lw_p28, List.forall_mem_cons.mpr ⟨lw_p29, List.forall_mem_cons.mpr ⟨lw_p30, List.forall_mem_cons.mpr ⟨lw_p31, fun _ h => absurd h List.not_mem_nil⟩⟩⟩⟩⟩⟩⟩⟩⟩⟩⟩⟩⟩⟩⟩⟩
theorem lw_p32 : lw_okq (⟨"EscapeCellsModel", "anyWaits", "()Z"⟩, 31) := ⟨⟨by decide +kernel, by decide +kernel⟩, List.mem_of_getElem? (i := 653) (by decide +kernel), List.mem_of_getElem? (i := 833) (by decide +kernel), List.mem_of_getElem? (i := 834) (by decide +kernel)⟩
theorem lw_p33 : lw_okq (⟨"EscapeCellsModel", "second", "(I)V"⟩, 31) := ⟨⟨by decide +kernel, by decide +kernel⟩, List.mem_of_getElem? (i := 653) (by decide +kernel), List.mem_of_getElem? (i := 837) (by decide +kernel), List.mem_of_getElem? (i := 838) (by decide +kernel)⟩
theorem lw_p34 : lw_okq (⟨"EscapeCellsModel", "isBarred", "(II)Z"⟩, 31) := ⟨⟨by decide +kernel, by decide +kernel⟩, List.mem_of_getElem? (i := 653) (by decide +kernel), List.mem_of_getElem? (i := 841) (by decide +kernel), List.mem_of_getElem? (i := 842) (by decide +kernel)⟩
theorem lw_p35 : lw_okq (⟨"EscapeCellsModel", "nextOne", "(I)I"⟩, 31) := ⟨⟨by decide +kernel, by decide +kernel⟩, List.mem_of_getElem? (i := 653) (by decide +kernel), List.mem_of_getElem? (i := 845) (by decide +kernel), List.mem_of_getElem? (i := 846) (by decide +kernel)⟩
theorem lw_p36 : lw_okq (⟨"EscapeCellsModel", "maySteps", "(II)Z"⟩, 31) := ⟨⟨by decide +kernel, by decide +kernel⟩, List.mem_of_getElem? (i := 653) (by decide +kernel), List.mem_of_getElem? (i := 849) (by decide +kernel), List.mem_of_getElem? (i := 850) (by decide +kernel)⟩
theorem lw_p37 : lw_okq (⟨"EscapeCellsModel", "goal", "(I)I"⟩, 31) := ⟨⟨by decide +kernel, by decide +kernel⟩, List.mem_of_getElem? (i := 653) (by decide +kernel), List.mem_of_getElem? (i := 853) (by decide +kernel), List.mem_of_getElem? (i := 854) (by decide +kernel)⟩
theorem lw_p38 : lw_okq (⟨"EscapeCellsModel", "go", "(II)V"⟩, 31) := ⟨⟨by decide +kernel, by decide +kernel⟩, List.mem_of_getElem? (i := 653) (by decide +kernel), List.mem_of_getElem? (i := 858) (by decide +kernel), List.mem_of_getElem? (i := 859) (by decide +kernel)⟩
theorem lw_p39 : lw_okq (⟨"EscapeCellsModel", "step", "(IIIZ)V"⟩, 31) := ⟨⟨by decide +kernel, by decide +kernel⟩, List.mem_of_getElem? (i := 653) (by decide +kernel), List.mem_of_getElem? (i := 862) (by decide +kernel), List.mem_of_getElem? (i := 863) (by decide +kernel)⟩
theorem lw_p40 : lw_okq (⟨"EscapeCellsModel", "placeAt", "(II)I"⟩, 31) := ⟨⟨by decide +kernel, by decide +kernel⟩, List.mem_of_getElem? (i := 653) (by decide +kernel), List.mem_of_getElem? (i := 874) (by decide +kernel), List.mem_of_getElem? (i := 875) (by decide +kernel)⟩
theorem lw_p41 : lw_okq (⟨"EscapeCellsModel", "isTurn", "(I)Z"⟩, 31) := ⟨⟨by decide +kernel, by decide +kernel⟩, List.mem_of_getElem? (i := 653) (by decide +kernel), List.mem_of_getElem? (i := 890) (by decide +kernel), List.mem_of_getElem? (i := 891) (by decide +kernel)⟩
theorem lw_p42 : lw_okq (⟨"EscapeCellsModel", "shownBy", "(II)I"⟩, 31) := ⟨⟨by decide +kernel, by decide +kernel⟩, List.mem_of_getElem? (i := 653) (by decide +kernel), List.mem_of_getElem? (i := 899) (by decide +kernel), List.mem_of_getElem? (i := 900) (by decide +kernel)⟩
theorem lw_p43 : lw_okq (⟨"EscapeCellsModel", "isNear", "(II)Z"⟩, 31) := ⟨⟨by decide +kernel, by decide +kernel⟩, List.mem_of_getElem? (i := 653) (by decide +kernel), List.mem_of_getElem? (i := 903) (by decide +kernel), List.mem_of_getElem? (i := 904) (by decide +kernel)⟩
def lw_privs_3 : List (MethodName × Nat) := [(⟨"EscapeCellsModel", "anyWaits", "()Z"⟩, 31), (⟨"EscapeCellsModel", "second", "(I)V"⟩, 31), (⟨"EscapeCellsModel", "isBarred", "(II)Z"⟩, 31), (⟨"EscapeCellsModel", "nextOne", "(I)I"⟩, 31), (⟨"EscapeCellsModel", "maySteps", "(II)Z"⟩, 31), (⟨"EscapeCellsModel", "goal", "(I)I"⟩, 31), (⟨"EscapeCellsModel", "go", "(II)V"⟩, 31), (⟨"EscapeCellsModel", "step", "(IIIZ)V"⟩, 31), (⟨"EscapeCellsModel", "placeAt", "(II)I"⟩, 31), (⟨"EscapeCellsModel", "isTurn", "(I)Z"⟩, 31), (⟨"EscapeCellsModel", "shownBy", "(II)I"⟩, 31), (⟨"EscapeCellsModel", "isNear", "(II)Z"⟩, 31)]
theorem lw_r3 : ∀ q ∈ lw_privs_3, lw_okq q := List.forall_mem_cons.mpr ⟨lw_p32, List.forall_mem_cons.mpr ⟨lw_p33, List.forall_mem_cons.mpr ⟨lw_p34, List.forall_mem_cons.mpr ⟨lw_p35, List.forall_mem_cons.mpr ⟨lw_p36, List.forall_mem_cons.mpr ⟨lw_p37, List.forall_mem_cons.mpr ⟨lw_p38, List.forall_mem_cons.mpr ⟨lw_p39, List.forall_mem_cons.mpr ⟨lw_p40, List.forall_mem_cons.mpr ⟨lw_p41, List.forall_mem_cons.mpr ⟨lw_p42, List.forall_mem_cons.mpr ⟨lw_p43, fun _ h => absurd h List.not_mem_nil⟩⟩⟩⟩⟩⟩⟩⟩⟩⟩⟩⟩
def lw_privs : List (MethodName × Nat) := lw_privs_1 ++ (lw_privs_2 ++ (lw_privs_3))
def lw_tbl : List Cond := k2_sels lw_privs ++ tables_1
theorem lw_privs_ok : ∀ q ∈ lw_privs, lw_okq q := by
  show ∀ q ∈ lw_privs_1 ++ (lw_privs_2 ++ (lw_privs_3)), lw_okq q
  exact List.forall_mem_append.mpr ⟨lw_r1, List.forall_mem_append.mpr ⟨lw_r2, lw_r3⟩⟩
end
section
/-! the machine's tables: written by wip/whole/gen_tables.py out of javap's listing and the tables' words -/
def mT0 : u_T := fun k => match k with
  | 0 => ("EscapeCells$Flight", "storey", "LEscapeCells$Storey;", true)
  | 1 => ("EscapeCells$Flight", "numbers", "LEscapeCells$Numbers;", true)
  | 2 => ("EscapeCells$Flight", "people", "LEscapeCells$People;", true)
  | 3 => ("EscapeCells$Flight", "state", "[I", true)
  | 4 => ("EscapeCells$Flight", "since", "[I", true)
  | 5 => ("EscapeCells$Flight", "exitTaken", "[I", true)
  | 6 => ("EscapeCells$Flight", "steps", "[I", true)
  | 7 => ("EscapeCells$Flight", "cameInAll", "[I", true)
  | 8 => ("EscapeCells$Flight", "last", "I", false)
  | 9 => ("EscapeCells$Flight", "here", "[I", true)
  | 10 => ("EscapeCells$Flight", "goal", "[I", true)
  | 11 => ("EscapeCells$Flight", "mayStepFrom", "[I", true)
  | 12 => ("EscapeCells$Flight", "stepSecond", "[[I", true)
  | 13 => ("EscapeCells$Flight", "stepCell", "[[I", true)
  | 14 => ("EscapeCells$Flight", "inCell", "[I", true)
  | 15 => ("EscapeCells$Flight", "cameNow", "[I", true)
  | 16 => ("EscapeCells$Flight", "cameSecond", "[I", true)
  | 17 => ("EscapeCells$Flight", "order", "[I", true)
  | _ => ("EscapeCells$Flight", "waiting", "I", false)
def mY0 : Nat → FieldType := fun k => match k with
  | 0 => .object "EscapeCells$Storey"
  | 1 => .object "EscapeCells$Numbers"
  | 2 => .object "EscapeCells$People"
  | 3 => .array .int
  | 4 => .array .int
  | 5 => .array .int
  | 6 => .array .int
  | 7 => .array .int
  | 8 => .int
  | 9 => .array .int
  | 10 => .array .int
  | 11 => .array .int
  | 12 => .array (.array .int)
  | 13 => .array (.array .int)
  | 14 => .array .int
  | 15 => .array .int
  | 16 => .array .int
  | 17 => .array .int
  | _ => .int
def mT1 : u_T := fun k => match k with
  | 0 => ("EscapeCells$Numbers", "storey", "LEscapeCells$Storey;", true)
  | 1 => ("EscapeCells$Numbers", "rows", "[[I", true)
  | 2 => ("EscapeCells$Numbers", "known", "[Z", true)
  | _ => ("EscapeCells$Numbers", "queue", "[I", true)
def mY1 : Nat → FieldType := fun k => match k with
  | 0 => .object "EscapeCells$Storey"
  | 1 => .array (.array .int)
  | 2 => .array .boolean
  | _ => .array .int
def mT2 : u_T := fun k => match k with
  | 0 => ("EscapeCells$People", "cell", "[I", true)
  | 1 => ("EscapeCells$People", "pace", "[I", true)
  | 2 => ("EscapeCells$People", "delay", "[I", true)
  | 3 => ("EscapeCells$People", "habit", "[I", true)
  | 4 => ("EscapeCells$People", "inCell", "[I", true)
  | _ => ("EscapeCells$People", "count", "I", false)
def mY2 : Nat → FieldType := fun k => match k with
  | 0 => .array .int
  | 1 => .array .int
  | 2 => .array .int
  | 3 => .array .int
  | 4 => .array .int
  | _ => .int
def mT3 : u_T := fun k => match k with
  | 0 => ("EscapeCells$Signposts", "storey", "LEscapeCells$Storey;", true)
  | 1 => ("EscapeCells$Signposts", "turnCell", "[I", true)
  | 2 => ("EscapeCells$Signposts", "shown", "[I", true)
  | 3 => ("EscapeCells$Signposts", "showings", "[I", true)
  | _ => ("EscapeCells$Signposts", "least", "[I", true)
def mY3 : Nat → FieldType := fun k => match k with
  | 0 => .object "EscapeCells$Storey"
  | 1 => .array .int
  | 2 => .array .int
  | 3 => .array .int
  | _ => .array .int
def mT4 : u_T := fun k => match k with
  | 0 => ("EscapeCells$Storey", "width", "I", true)
  | 1 => ("EscapeCells$Storey", "height", "I", true)
  | 2 => ("EscapeCells$Storey", "cells", "I", true)
  | 3 => ("EscapeCells$Storey", "kind", "[I", true)
  | 4 => ("EscapeCells$Storey", "rate", "[I", true)
  | 5 => ("EscapeCells$Storey", "barredFrom", "[I", true)
  | 6 => ("EscapeCells$Storey", "exitIn", "[I", true)
  | 7 => ("EscapeCells$Storey", "exitCell", "[I", true)
  | 8 => ("EscapeCells$Storey", "xOf", "[I", true)
  | 9 => ("EscapeCells$Storey", "yOf", "[I", true)
  | 10 => ("EscapeCells$Storey", "besides", "[I", true)
  | _ => ("EscapeCells$Storey", "exits", "I", false)
def mY4 : Nat → FieldType := fun k => match k with
  | 0 => .int
  | 1 => .int
  | 2 => .int
  | 3 => .array .int
  | 4 => .array .int
  | 5 => .array .int
  | 6 => .array .int
  | 7 => .array .int
  | 8 => .array .int
  | 9 => .array .int
  | 10 => .array .int
  | _ => .int
def mT5 : u_T := fun k => match k with
  | 0 => ("EscapeCells", "storey", "LEscapeCells$Storey;", true)
  | 1 => ("EscapeCells", "numbers", "LEscapeCells$Numbers;", true)
  | 2 => ("EscapeCells", "people", "LEscapeCells$People;", true)
  | 3 => ("EscapeCells", "flight", "LEscapeCells$Flight;", true)
  | 4 => ("EscapeCells", "signposts", "LEscapeCells$Signposts;", true)
  | _ => ("EscapeCells", "ran", "Z", false)
def mY5 : Nat → FieldType := fun k => match k with
  | 0 => .object "EscapeCells$Storey"
  | 1 => .object "EscapeCells$Numbers"
  | 2 => .object "EscapeCells$People"
  | 3 => .object "EscapeCells$Flight"
  | 4 => .object "EscapeCells$Signposts"
  | _ => .boolean
def mT6 : u_T := fun k => match k with
  | 0 => ("EscapeCellsModel", "thrown", "I", false)
  | 1 => ("EscapeCellsModel", "wide", "I", true)
  | 2 => ("EscapeCellsModel", "high", "I", true)
  | 3 => ("EscapeCellsModel", "walls", "[Z", true)
  | 4 => ("EscapeCellsModel", "exitOf", "[I", true)
  | 5 => ("EscapeCellsModel", "rates", "[I", true)
  | 6 => ("EscapeCellsModel", "bars", "[I", true)
  | 7 => ("EscapeCellsModel", "exits", "I", false)
  | 8 => ("EscapeCellsModel", "exitCells", "[I", true)
  | 9 => ("EscapeCellsModel", "persons", "I", false)
  | 10 => ("EscapeCellsModel", "starts", "[I", true)
  | 11 => ("EscapeCellsModel", "paces", "[I", true)
  | 12 => ("EscapeCellsModel", "delays", "[I", true)
  | 13 => ("EscapeCellsModel", "habits", "[I", true)
  | 14 => ("EscapeCellsModel", "known", "Z", false)
  | 15 => ("EscapeCellsModel", "numbers", "[I", true)
  | 16 => ("EscapeCellsModel", "ring", "[I", true)
  | 17 => ("EscapeCellsModel", "ran", "Z", false)
  | 18 => ("EscapeCellsModel", "last", "I", false)
  | 19 => ("EscapeCellsModel", "states", "[I", true)
  | 20 => ("EscapeCellsModel", "ends", "[I", true)
  | 21 => ("EscapeCellsModel", "byExit", "[I", true)
  | 22 => ("EscapeCellsModel", "steps", "[I", true)
  | 23 => ("EscapeCellsModel", "stepSeconds", "[I", true)
  | 24 => ("EscapeCellsModel", "stepCells", "[I", true)
  | 25 => ("EscapeCellsModel", "places", "[I", true)
  | 26 => ("EscapeCellsModel", "who", "[I", true)
  | 27 => ("EscapeCellsModel", "came", "[I", true)
  | 28 => ("EscapeCellsModel", "now", "[I", true)
  | 29 => ("EscapeCellsModel", "gone", "[Z", true)
  | _ => ("EscapeCellsModel", "fewest", "[I", true)
def mY6 : Nat → FieldType := fun k => match k with
  | 0 => .int
  | 1 => .int
  | 2 => .int
  | 3 => .array .boolean
  | 4 => .array .int
  | 5 => .array .int
  | 6 => .array .int
  | 7 => .int
  | 8 => .array .int
  | 9 => .int
  | 10 => .array .int
  | 11 => .array .int
  | 12 => .array .int
  | 13 => .array .int
  | 14 => .boolean
  | 15 => .array .int
  | 16 => .array .int
  | 17 => .boolean
  | 18 => .int
  | 19 => .array .int
  | 20 => .array .int
  | 21 => .array .int
  | 22 => .array .int
  | 23 => .array .int
  | 24 => .array .int
  | 25 => .array .int
  | 26 => .array .int
  | 27 => .array .int
  | 28 => .array .int
  | 29 => .array .boolean
  | _ => .array .int
/-- the classes whose objects the machine holds -/
def m_cls : List vw_C := [("EscapeCells$Flight", mT0, 19), ("EscapeCells$Numbers", mT1, 4), ("EscapeCells$People", mT2, 6), ("EscapeCells$Signposts", mT3, 5), ("EscapeCells$Storey", mT4, 12), ("EscapeCells", mT5, 6), ("EscapeCellsModel", mT6, 31)]
/-- the types of their fields -/
def m_tys : List (Nat → FieldType) := [mY0, mY1, mY2, mY3, mY4, mY5, mY6]
/-- the names of all classes: 0 to 6 those of m_cls, 7 and 8 the exceptions', 9 the law's, 10 Arrays -/
def m_R (o : Nat) : String := (["EscapeCells$Flight", "EscapeCells$Numbers", "EscapeCells$People", "EscapeCells$Signposts", "EscapeCells$Storey", "EscapeCells", "EscapeCellsModel", "java/lang/IllegalArgumentException", "java/lang/IllegalStateException", "EscapeCellsLaw", "java/util/Arrays"] : List String).getD o ""
/-- the methods: class, name, descriptor -/
def m_mns : List MethodName := [
  ⟨"EscapeCells$Flight", "<init>", "(LEscapeCells$Storey;LEscapeCells$Numbers;LEscapeCells$People;)V"⟩,
  ⟨"EscapeCells$Flight", "goAll", "()V"⟩,
  ⟨"EscapeCells$Flight", "begin", "()V"⟩,
  ⟨"EscapeCells$Flight", "goalOf", "(I)I"⟩,
  ⟨"EscapeCells$Flight", "nextChange", "(I)I"⟩,
  ⟨"EscapeCells$Flight", "endInSmoke", "(I)Z"⟩,
  ⟨"EscapeCells$Flight", "stepAll", "(I)Z"⟩,
  ⟨"EscapeCells$Flight", "lineUp", "(I)I"⟩,
  ⟨"EscapeCells$Flight", "numberOf", "(I)I"⟩,
  ⟨"EscapeCells$Flight", "stepOne", "(II)Z"⟩,
  ⟨"EscapeCells$Flight", "mayEnter", "(II)Z"⟩,
  ⟨"EscapeCells$Flight", "cameIn", "(II)I"⟩,
  ⟨"EscapeCells$Flight", "move", "(III)V"⟩,
  ⟨"EscapeCells$Flight", "end", "(III)V"⟩,
  ⟨"EscapeCells$Flight", "isInCellBehind", "(II)Z"⟩,
  ⟨"EscapeCells$Flight", "cellBehind", "(II)I"⟩,
  ⟨"EscapeCells$Flight", "countBehind", "(I)I"⟩,
  ⟨"EscapeCells$Numbers", "<init>", "(LEscapeCells$Storey;)V"⟩,
  ⟨"EscapeCells$Numbers", "forget", "()V"⟩,
  ⟨"EscapeCells$Numbers", "rowTo", "(I)[I"⟩,
  ⟨"EscapeCells$Numbers", "findAll", "()V"⟩,
  ⟨"EscapeCells$Numbers", "foundRowTo", "(I)[I"⟩,
  ⟨"EscapeCells$Numbers", "find", "(I[I)V"⟩,
  ⟨"EscapeCells$Numbers", "spread", "(I[II)I"⟩,
  ⟨"EscapeCells$People", "<init>", "(I)V"⟩,
  ⟨"EscapeCells$People", "has", "(I)Z"⟩,
  ⟨"EscapeCells$People", "add", "(III)I"⟩,
  ⟨"EscapeCells$Signposts", "<init>", "(LEscapeCells$Storey;)V"⟩,
  ⟨"EscapeCells$Signposts", "countTurns", "([I)I"⟩,
  ⟨"EscapeCells$Signposts", "countLeast", "([I)I"⟩,
  ⟨"EscapeCells$Signposts", "isTurn", "(I[I)Z"⟩,
  ⟨"EscapeCells$Signposts", "showTurns", "(I)V"⟩,
  ⟨"EscapeCells$Signposts", "showBeside", "(II)V"⟩,
  ⟨"EscapeCells$Signposts", "listShowings", "()I"⟩,
  ⟨"EscapeCells$Signposts", "isListed", "(II)Z"⟩,
  ⟨"EscapeCells$Signposts", "leastOf", "(II)I"⟩,
  ⟨"EscapeCells$Storey", "<init>", "(II)V"⟩,
  ⟨"EscapeCells$Storey", "layCell", "(II)V"⟩,
  ⟨"EscapeCells$Storey", "cellOf", "(II)I"⟩,
  ⟨"EscapeCells$Storey", "openBeside", "(II)I"⟩,
  ⟨"EscapeCells$Storey", "isWall", "(I)Z"⟩,
  ⟨"EscapeCells$Storey", "isExit", "(I)Z"⟩,
  ⟨"EscapeCells$Storey", "hasRate", "(I)Z"⟩,
  ⟨"EscapeCells$Storey", "isBarred", "(II)Z"⟩,
  ⟨"EscapeCells$Storey", "isExitNumberOrNone", "(I)Z"⟩,
  ⟨"EscapeCells$Storey", "makeWall", "(I)V"⟩,
  ⟨"EscapeCells$Storey", "makeFree", "(I)V"⟩,
  ⟨"EscapeCells$Storey", "makeExit", "(I)V"⟩,
  ⟨"EscapeCells", "<init>", "(II)V"⟩,
  ⟨"EscapeCells", "wall", "(IIZ)Z"⟩,
  ⟨"EscapeCells", "exit", "(III)I"⟩,
  ⟨"EscapeCells", "door", "(III)V"⟩,
  ⟨"EscapeCells", "smoke", "(III)I"⟩,
  ⟨"EscapeCells", "person", "(IIII)I"⟩,
  ⟨"EscapeCells", "habit", "(II)I"⟩,
  ⟨"EscapeCells", "ways", "()I"⟩,
  ⟨"EscapeCells", "walk", "(III)I"⟩,
  ⟨"EscapeCells", "run", "()I"⟩,
  ⟨"EscapeCells", "told", "(II)I"⟩,
  ⟨"EscapeCells", "at", "(III)I"⟩,
  ⟨"EscapeCells", "through", "(II)I"⟩,
  ⟨"EscapeCells", "left", "(I)I"⟩,
  ⟨"EscapeCells", "turns", "()I"⟩,
  ⟨"EscapeCells", "signs", "()I"⟩,
  ⟨"EscapeCells", "sideOf", "(I)I"⟩,
  ⟨"EscapeCells", "isWithin", "(III)Z"⟩,
  ⟨"EscapeCellsModel", "<init>", "(II)V"⟩,
  ⟨"EscapeCellsModel", "thrown", "()I"⟩,
  ⟨"EscapeCellsModel", "refuses", "(I)Z"⟩,
  ⟨"EscapeCellsModel", "isCell", "(II)Z"⟩,
  ⟨"EscapeCellsModel", "cell", "(II)I"⟩,
  ⟨"EscapeCellsModel", "hasPerson", "(I)Z"⟩,
  ⟨"EscapeCellsModel", "changed", "()V"⟩,
  ⟨"EscapeCellsModel", "wall", "(IIZ)Z"⟩,
  ⟨"EscapeCellsModel", "exit", "(III)I"⟩,
  ⟨"EscapeCellsModel", "door", "(III)V"⟩,
  ⟨"EscapeCellsModel", "smoke", "(III)I"⟩,
  ⟨"EscapeCellsModel", "person", "(IIII)I"⟩,
  ⟨"EscapeCellsModel", "habit", "(II)I"⟩,
  ⟨"EscapeCellsModel", "beside", "(II)I"⟩,
  ⟨"EscapeCellsModel", "isGoal", "(II)Z"⟩,
  ⟨"EscapeCellsModel", "find", "(I)V"⟩,
  ⟨"EscapeCellsModel", "learn", "()V"⟩,
  ⟨"EscapeCellsModel", "numberOf", "(II)I"⟩,
  ⟨"EscapeCellsModel", "ways", "()I"⟩,
  ⟨"EscapeCellsModel", "walk", "(III)I"⟩,
  ⟨"EscapeCellsModel", "goal", "(I)I"⟩,
  ⟨"EscapeCellsModel", "isBarred", "(II)Z"⟩,
  ⟨"EscapeCellsModel", "maySteps", "(II)Z"⟩,
  ⟨"EscapeCellsModel", "nextOne", "(I)I"⟩,
  ⟨"EscapeCellsModel", "go", "(II)V"⟩,
  ⟨"EscapeCellsModel", "step", "(IIIZ)V"⟩,
  ⟨"EscapeCellsModel", "second", "(I)V"⟩,
  ⟨"EscapeCellsModel", "anyWaits", "()Z"⟩,
  ⟨"EscapeCellsModel", "run", "()I"⟩,
  ⟨"EscapeCellsModel", "told", "(II)I"⟩,
  ⟨"EscapeCellsModel", "placeAt", "(II)I"⟩,
  ⟨"EscapeCellsModel", "at", "(III)I"⟩,
  ⟨"EscapeCellsModel", "through", "(II)I"⟩,
  ⟨"EscapeCellsModel", "left", "(I)I"⟩,
  ⟨"EscapeCellsModel", "isTurn", "(I)Z"⟩,
  ⟨"EscapeCellsModel", "turns", "()I"⟩,
  ⟨"EscapeCellsModel", "isNear", "(II)Z"⟩,
  ⟨"EscapeCellsModel", "signs", "()I"⟩,
  ⟨"EscapeCellsModel", "shownBy", "(II)I"⟩,
  ⟨"EscapeCellsLaw", "cell", "([II)I"⟩,
  ⟨"EscapeCellsLaw", "wall", "(LEscapeCells;IIZ[J)I"⟩,
  ⟨"EscapeCellsLaw", "exit", "(LEscapeCells;III[J)I"⟩,
  ⟨"EscapeCellsLaw", "door", "(LEscapeCells;III)I"⟩,
  ⟨"EscapeCellsLaw", "smoke", "(LEscapeCells;III[J)I"⟩,
  ⟨"EscapeCellsLaw", "person", "(LEscapeCells;IIII[J)I"⟩,
  ⟨"EscapeCellsLaw", "habit", "(LEscapeCells;II[J)I"⟩,
  ⟨"EscapeCellsLaw", "walk", "(LEscapeCells;III[J)I"⟩,
  ⟨"EscapeCellsLaw", "told", "(LEscapeCells;II[J)I"⟩,
  ⟨"EscapeCellsLaw", "at", "(LEscapeCells;III[J)I"⟩,
  ⟨"EscapeCellsLaw", "through", "(LEscapeCells;II[J)I"⟩,
  ⟨"EscapeCellsLaw", "left", "(LEscapeCells;I[J)I"⟩,
  ⟨"EscapeCellsLaw", "law", "([I)Z"⟩,
  ⟨"java/util/Arrays", "fill", "([II)V"⟩]
def m_mn (y : Nat) : MethodName := m_mns.getD y ⟨"", "", ""⟩
def m_o (y : Nat) : Nat := ([0, 0, 0, 0, 0, 0, 0, 0, 0, 0, 0, 0, 0, 0, 0, 0, 0, 1, 1, 1, 1, 1, 1, 1, 2, 2, 2, 3, 3, 3, 3, 3, 3, 3, 3, 3, 4, 4, 4, 4, 4, 4, 4, 4, 4, 4, 4, 4, 5, 5, 5, 5, 5, 5, 5, 5, 5, 5, 5, 5, 5, 5, 5, 5, 5, 5, 6, 6, 6, 6, 6, 6, 6, 6, 6, 6, 6, 6, 6, 6, 6, 6, 6, 6, 6, 6, 6, 6, 6, 6, 6, 6, 6, 6, 6, 6, 6, 6, 6, 6, 6, 6, 6, 6, 6, 9, 9, 9, 9, 9, 9, 9, 9, 9, 9, 9, 9, 9, 10] : List Nat).getD y 99
def m_bys : List ByteArray := [prog_2_method_1_code, prog_2_method_2_code, prog_2_method_3_code, prog_2_method_4_code, prog_2_method_5_code, prog_2_method_6_code, prog_2_method_7_code, prog_2_method_8_code, prog_2_method_9_code, prog_2_method_10_code, prog_2_method_11_code, prog_2_method_12_code, prog_2_method_13_code, prog_2_method_14_code, prog_2_method_15_code, prog_2_method_16_code, prog_2_method_17_code, prog_3_method_1_code, prog_3_method_2_code, prog_3_method_3_code, prog_3_method_4_code, prog_3_method_5_code, prog_3_method_6_code, prog_3_method_7_code, prog_4_method_1_code, prog_4_method_2_code, prog_4_method_3_code, prog_5_method_1_code, prog_5_method_2_code, prog_5_method_3_code, prog_5_method_4_code, prog_5_method_5_code, prog_5_method_6_code, prog_5_method_7_code, prog_5_method_8_code, prog_5_method_9_code, prog_6_method_1_code, prog_6_method_2_code, prog_6_method_3_code, prog_6_method_4_code, prog_6_method_5_code, prog_6_method_6_code, prog_6_method_7_code, prog_6_method_8_code, prog_6_method_9_code, prog_6_method_10_code, prog_6_method_11_code, prog_6_method_12_code, prog_1_method_1_code, prog_1_method_2_code, prog_1_method_3_code, prog_1_method_4_code, prog_1_method_5_code, prog_1_method_6_code, prog_1_method_7_code, prog_1_method_8_code, prog_1_method_9_code, prog_1_method_10_code, prog_1_method_11_code, prog_1_method_12_code, prog_1_method_13_code, prog_1_method_14_code, prog_1_method_15_code, prog_1_method_16_code, prog_1_method_17_code, prog_1_method_18_code, prog_8_method_1_code, prog_8_method_2_code, prog_8_method_3_code, prog_8_method_4_code, prog_8_method_5_code, prog_8_method_6_code, prog_8_method_7_code, prog_8_method_8_code, prog_8_method_9_code, prog_8_method_10_code, prog_8_method_11_code, prog_8_method_12_code, prog_8_method_13_code, prog_8_method_14_code, prog_8_method_15_code, prog_8_method_16_code, prog_8_method_17_code, prog_8_method_18_code, prog_8_method_19_code, prog_8_method_20_code, prog_8_method_21_code, prog_8_method_22_code, prog_8_method_23_code, prog_8_method_24_code, prog_8_method_25_code, prog_8_method_26_code, prog_8_method_27_code, prog_8_method_28_code, prog_8_method_29_code, prog_8_method_30_code, prog_8_method_31_code, prog_8_method_32_code, prog_8_method_33_code, prog_8_method_34_code, prog_8_method_35_code, prog_8_method_36_code, prog_8_method_37_code, prog_8_method_38_code, prog_8_method_39_code, method_2_code, method_3_code, method_4_code, method_5_code, method_6_code, method_7_code, method_8_code, method_9_code, method_10_code, method_11_code, method_12_code, method_13_code, code, prog_17_method_103_code]
def m_by (y : Nat) : ByteArray := m_bys.getD y ⟨#[]⟩
def m_ml (y : Nat) : Nat := ([4, 5, 2, 3, 6, 4, 5, 6, 2, 7, 3, 3, 5, 4, 3, 5, 4, 2, 2, 3, 2, 2, 6, 7, 2, 2, 5, 2, 4, 4, 6, 7, 5, 3, 4, 9, 5, 5, 3, 4, 2, 2, 2, 3, 2, 3, 2, 2, 3, 6, 5, 5, 6, 6, 4, 4, 5, 1, 3, 5, 4, 2, 1, 1, 1, 3, 4, 1, 2, 3, 2, 4, 1, 6, 7, 6, 5, 7, 4, 5, 3, 6, 2, 3, 3, 4, 3, 3, 4, 6, 8, 5, 3, 3, 2, 3, 5, 6, 3, 4, 6, 3, 7, 8, 5, 2, 6, 6, 5, 6, 7, 5, 6, 5, 6, 5, 4, 7, 4] : List Nat).getD y 0
def m_rts : List (Option FieldType) := [none, none, none, (some FieldType.int), (some FieldType.int), (some FieldType.boolean), (some FieldType.boolean), (some FieldType.int), (some FieldType.int), (some FieldType.boolean), (some FieldType.boolean), (some FieldType.int), none, none, (some FieldType.boolean), (some FieldType.int), (some FieldType.int), none, none, (some (FieldType.array FieldType.int)), none, (some (FieldType.array FieldType.int)), none, (some FieldType.int), none, (some FieldType.boolean), (some FieldType.int), none, (some FieldType.int), (some FieldType.int), (some FieldType.boolean), none, none, (some FieldType.int), (some FieldType.boolean), (some FieldType.int), none, none, (some FieldType.int), (some FieldType.int), (some FieldType.boolean), (some FieldType.boolean), (some FieldType.boolean), (some FieldType.boolean), (some FieldType.boolean), none, none, none, none, (some FieldType.boolean), (some FieldType.int), none, (some FieldType.int), (some FieldType.int), (some FieldType.int), (some FieldType.int), (some FieldType.int), (some FieldType.int), (some FieldType.int), (some FieldType.int), (some FieldType.int), (some FieldType.int), (some FieldType.int), (some FieldType.int), (some FieldType.int), (some FieldType.boolean), none, (some FieldType.int), (some FieldType.boolean), (some FieldType.boolean), (some FieldType.int), (some FieldType.boolean), none, (some FieldType.boolean), (some FieldType.int), none, (some FieldType.int), (some FieldType.int), (some FieldType.int), (some FieldType.int), (some FieldType.boolean), none, none, (some FieldType.int), (some FieldType.int), (some FieldType.int), (some FieldType.int), (some FieldType.boolean), (some FieldType.boolean), (some FieldType.int), none, none, none, (some FieldType.boolean), (some FieldType.int), (some FieldType.int), (some FieldType.int), (some FieldType.int), (some FieldType.int), (some FieldType.int), (some FieldType.boolean), (some FieldType.int), (some FieldType.boolean), (some FieldType.int), (some FieldType.int), (some FieldType.int), (some FieldType.int), (some FieldType.int), (some FieldType.int), (some FieldType.int), (some FieldType.int), (some FieldType.int), (some FieldType.int), (some FieldType.int), (some FieldType.int), (some FieldType.int), (some FieldType.int), ret, none]
def m_rt (y : Nat) : Option FieldType := m_rts.getD y none
/-- how many arguments, the receiver counted -/
def m_na (y : Nat) : Nat := ([4, 1, 1, 2, 2, 2, 2, 2, 2, 3, 3, 3, 4, 4, 3, 3, 2, 2, 1, 2, 1, 2, 3, 4, 2, 2, 4, 2, 2, 2, 3, 2, 3, 1, 3, 3, 3, 3, 3, 3, 2, 2, 2, 3, 2, 2, 2, 2, 3, 4, 4, 4, 4, 5, 3, 1, 4, 1, 3, 4, 3, 2, 1, 1, 1, 3, 3, 1, 2, 3, 2, 2, 1, 4, 4, 4, 4, 5, 3, 3, 3, 2, 1, 3, 1, 4, 2, 3, 3, 2, 3, 5, 2, 1, 1, 3, 3, 4, 3, 2, 2, 1, 3, 1, 3, 2, 5, 5, 4, 5, 6, 4, 5, 4, 5, 4, 3, 1, 2] : List Nat).getD y 0
def m_st (y : Nat) : Bool := ([false, false, false, false, false, false, false, false, false, false, false, false, false, false, false, false, false, false, false, false, false, false, false, false, false, false, false, false, false, false, false, false, false, false, false, false, false, false, false, false, false, false, false, false, false, false, false, false, false, false, false, false, false, false, false, false, false, false, false, false, false, false, false, false, true, true, false, false, false, false, true, false, false, false, false, false, false, false, false, false, false, false, false, false, false, false, false, false, false, false, false, false, false, false, false, false, false, false, false, false, false, false, false, false, false, true, true, true, true, true, true, true, true, true, true, true, true, true, true] : List Bool).getD y true
/-- the frames and the words that a method asks above its own -/
def m_nf (y : Nat) : Nat := ([1, 4, 2, 1, 1, 1, 3, 2, 1, 2, 1, 0, 1, 0, 0, 1, 1, 1, 0, 4, 5, 0, 3, 2, 1, 0, 0, 1, 3, 4, 2, 3, 2, 1, 0, 1, 2, 1, 0, 1, 0, 0, 0, 0, 0, 0, 0, 0, 3, 6, 6, 6, 6, 6, 6, 5, 6, 6, 6, 6, 6, 6, 5, 5, 1, 0, 1, 0, 0, 0, 0, 0, 0, 1, 1, 1, 1, 1, 1, 1, 0, 2, 3, 0, 4, 4, 1, 0, 0, 2, 2, 0, 3, 0, 4, 1, 0, 1, 1, 1, 2, 4, 2, 5, 3, 0, 7, 7, 7, 7, 7, 7, 7, 7, 7, 7, 7, 10, 0] : List Nat).getD y 0
def m_nw (y : Nat) : Nat := ([12, 66, 29, 13, 13, 15, 50, 26, 13, 32, 14, 0, 16, 0, 0, 14, 14, 12, 0, 63, 77, 0, 46, 28, 15, 0, 0, 12, 45, 62, 28, 44, 28, 15, 0, 15, 32, 16, 0, 13, 0, 0, 0, 0, 0, 0, 0, 0, 50, 82, 82, 82, 82, 82, 82, 77, 82, 90, 82, 82, 82, 82, 78, 78, 14, 0, 12, 0, 0, 0, 0, 0, 0, 16, 15, 14, 15, 16, 13, 14, 0, 30, 47, 0, 60, 60, 14, 0, 0, 29, 30, 0, 49, 0, 63, 13, 0, 16, 15, 17, 30, 60, 30, 74, 49, 0, 101, 100, 98, 101, 101, 99, 100, 98, 100, 99, 97, 352, 0] : List Nat).getD y 0
/-- a method's handlers: from, to, handler, the number of the class that it takes -/
def m_hd (y : Nat) : List (Nat × Nat × Nat × Nat) := ([[], [], [], [], [], [], [], [], [], [], [], [], [], [], [], [], [], [], [], [], [], [], [], [], [], [], [], [], [], [], [], [], [], [], [], [], [], [], [], [], [], [], [], [], [], [], [], [], [], [], [], [], [], [], [], [], [], [], [], [], [], [], [], [], [], [], [], [], [], [], [], [], [], [], [], [], [], [], [], [], [], [], [], [], [], [], [], [], [], [], [], [], [], [], [], [], [], [], [], [], [], [], [], [], [], [], [(0, 19, 22, 7), (0, 19, 26, 8)], [(0, 12, 15, 7), (0, 12, 19, 8)], [(0, 7, 10, 7), (0, 7, 14, 8)], [(0, 12, 15, 7)], [(0, 14, 17, 7), (0, 14, 21, 8)], [(0, 10, 13, 7)], [(0, 12, 15, 7)], [(0, 10, 13, 7), (0, 10, 17, 8)], [(0, 12, 15, 7), (0, 12, 19, 8)], [(0, 10, 13, 7), (0, 10, 17, 8)], [(0, 9, 12, 7), (0, 9, 15, 8)], [], []] : List (List (Nat × Nat × Nat × Nat))).getD y []
/-- the same as the tables' words have them: the last number is the entry of the class in the pool -/
def m_hw (y : Nat) : List (Nat × Nat × Nat × Nat) := ([[], [], [], [], [], [], [], [], [], [], [], [], [], [], [], [], [], [], [], [], [], [], [], [], [], [], [], [], [], [], [], [], [], [], [], [], [], [], [], [], [], [], [], [], [], [], [], [], [], [], [], [], [], [], [], [], [], [], [], [], [], [], [], [], [], [], [], [], [], [], [], [], [], [], [], [], [], [], [], [], [], [], [], [], [], [], [], [], [], [], [], [], [], [], [], [], [], [], [], [], [], [], [], [], [], [], [(0, 19, 22, 13), (0, 19, 26, 15)], [(0, 12, 15, 13), (0, 12, 19, 15)], [(0, 7, 10, 13), (0, 7, 14, 15)], [(0, 12, 15, 13)], [(0, 14, 17, 13), (0, 14, 21, 15)], [(0, 10, 13, 13)], [(0, 12, 15, 13)], [(0, 10, 13, 13), (0, 10, 17, 15)], [(0, 12, 15, 13), (0, 12, 19, 15)], [(0, 10, 13, 13), (0, 10, 17, 15)], [(0, 9, 12, 13), (0, 9, 15, 15)], [], []] : List (List (Nat × Nat × Nat × Nat))).getD y []
/-- the entries of fields, a class a list: entry, class, place -/
def m_fls : List (List (Nat × Nat × Nat)) := [[(9, 0, 0), (15, 0, 1), (19, 0, 2), (23, 0, 3), (27, 0, 4), (30, 0, 5), (33, 0, 6), (36, 4, 2), (42, 0, 7), (45, 0, 9), (48, 0, 10), (51, 0, 11), (56, 0, 12), (59, 0, 13), (62, 0, 14), (65, 0, 15), (68, 0, 16), (71, 0, 17), (74, 0, 18), (77, 0, 8), (100, 2, 4), (115, 2, 5), (118, 2, 0), (124, 2, 2), (127, 2, 1), (130, 2, 3), (142, 4, 5), (171, 4, 6), (180, 4, 4)], [(9, 1, 0), (15, 4, 2), (23, 1, 1), (26, 1, 2), (30, 1, 3), (38, 4, 11), (51, 4, 7)], [(9, 2, 0), (15, 2, 1), (18, 2, 2), (21, 2, 3), (24, 2, 4), (27, 2, 5)], [(9, 3, 0), (15, 3, 1), (19, 4, 2), (25, 3, 2), (28, 3, 3), (31, 3, 4)], [(9, 4, 0), (15, 4, 1), (18, 4, 2), (21, 4, 3), (25, 4, 4), (28, 4, 5), (31, 4, 6), (34, 4, 7), (37, 4, 8), (40, 4, 9), (43, 4, 10), (46, 4, 11)], [(18, 5, 0), (27, 5, 1), (33, 4, 2), (40, 5, 2), (49, 5, 3), (56, 5, 4), (60, 5, 5), (75, 2, 4), (108, 4, 11), (116, 4, 4), (119, 4, 6), (124, 4, 3), (129, 4, 5), (134, 2, 5), (151, 2, 3), (166, 0, 8), (173, 0, 3), (176, 0, 4), (179, 0, 5), (182, 0, 6), (190, 4, 8), (193, 4, 9), (196, 0, 7)], [(7, 6, 3), (13, 6, 4), (17, 6, 5), (20, 6, 6), (23, 6, 8), (26, 6, 10), (29, 6, 11), (32, 6, 12), (35, 6, 13), (38, 6, 15), (41, 6, 16), (44, 6, 19), (47, 6, 20), (50, 6, 21), (53, 6, 22), (57, 6, 23), (60, 6, 24), (63, 6, 25), (66, 6, 26), (69, 6, 27), (72, 6, 28), (75, 6, 29), (78, 6, 30), (81, 6, 1), (85, 6, 2), (88, 6, 0), (91, 6, 9), (94, 6, 14), (98, 6, 17), (119, 6, 7), (160, 6, 18)], [], [], [], []]
def m_fl (o ix : Nat) : Option (Nat × Nat) := (m_fls.getD o []).lookup ix
/-- the entries of methods that the machine walks: entry, method -/
def m_clss : List (List (Nat × Nat)) := [[(80, 2), (83, 4), (93, 5), (97, 6), (109, 118), (121, 3), (133, 21), (145, 43), (149, 13), (153, 7), (156, 9), (159, 8), (162, 39), (165, 10), (168, 12), (174, 42), (177, 11), (183, 14)], [(34, 22), (41, 19), (45, 118), (54, 23), (58, 39)], [(31, 118)], [(34, 30), (38, 31), (42, 33), (46, 35), (50, 39), (53, 118), (59, 32), (63, 34)], [(49, 118), (55, 37), (65, 38), (69, 40)], [(11, 64), (15, 36), (24, 17), (37, 24), (46, 0), (55, 27), (64, 38), (84, 40), (88, 45), (91, 46), (94, 18), (97, 65), (105, 41), (113, 47), (139, 26), (143, 25), (146, 44), (154, 19), (160, 20), (163, 1), (187, 15), (201, 16), (204, 28), (208, 29)], [(101, 69), (105, 70), (109, 71), (113, 68), (116, 72), (122, 80), (125, 79), (128, 81), (132, 82), (135, 83), (138, 88), (141, 86), (146, 87), (149, 91), (153, 89), (156, 90), (163, 93), (167, 92), (170, 96), (173, 100), (176, 101), (180, 104), (183, 102)], [], [], [(7, 49), (17, 50), (21, 51), (25, 52), (28, 53), (32, 54), (36, 56), (39, 58), (42, 59), (45, 60), (48, 61), (52, 105), (58, 48), (63, 66), (64, 106), (67, 73), (68, 67), (72, 107), (75, 74), (76, 108), (79, 75), (80, 109), (82, 76), (83, 110), (86, 77), (87, 111), (90, 78), (91, 55), (94, 84), (95, 112), (97, 85), (98, 57), (101, 94), (102, 113), (104, 95), (105, 114), (107, 97), (108, 115), (110, 98), (111, 116), (114, 99), (115, 62), (118, 101), (119, 63), (122, 103)], []]
def m_cl (o ix : Nat) : Option Nat := (m_clss.getD o []).lookup ix
/-- the entries of calls that are one step: 1 Object(), 2 an exception's own, 3 max, 4 min, 5 arraycopy -/
def m_prs : List (List (Nat × Nat)) := [[(3, 1), (87, 3), (103, 5), (139, 4)], [(3, 1)], [(3, 1)], [(3, 1), (67, 4)], [(3, 1)], [(3, 1), (72, 2), (83, 2), (211, 4), (216, 3)], [(1, 1)], [], [], [], []]
def m_pr (o ix : Nat) : Option Nat := (m_prs.getD o []).lookup ix
/-- the entries of classes of which an object is made -/
def m_nes : List (List (Nat × Nat)) := [[], [], [], [], [], [(9, 4), (22, 1), (31, 2), (44, 0), (53, 3), (68, 7), (79, 8)], [], [], [], [(8, 5), (61, 6)], []]
def m_ne (o ix : Nat) : Option Nat := (m_nes.getD o []).lookup ix
/-- the entries of the statics -/
def m_gss : List (List (Nat × Nat)) := [[], [], [], [], [(59, 0), (62, 1)], [], [], [], [], [], []]
def m_gs (o ix : Nat) : Option Nat := (m_gss.getD o []).lookup ix
/-- where the numbers of cells begin that were there before: the two static arrays, the script, the texts -/
def m_sB : Nat := 1000000000
/-- the constants -/
def m_lcs : List (List (Nat × Value)) := [[], [], [], [], [], [(70, .ref 1000000100), (81, .ref 1000000101), (101, .ref 1000000102), (103, .ref 1000000103), (111, .ref 1000000104), (122, .ref 1000000105), (127, .ref 1000000106), (132, .ref 1000000107), (137, .ref 1000000108), (149, .ref 1000000109), (158, .ref 1000000110), (169, .ref 1000000111), (171, .ref 1000000112), (185, .ref 1000000113), (199, .ref 1000000114)], [(56, .int 36000), (145, .int 100000)], [], [], [], []]
def m_lc (o ix : Nat) : Option Value := (m_lcs.getD o []).lookup ix
/-- the entries of int[][] -/
def m_mas : List (List (Nat)) := [[54], [21], [], [], [], [], [], [], [], [], []]
def m_ma (o ix : Nat) : Bool := (m_mas.getD o []).contains ix
abbrev y_Flight_init : Nat := 0
abbrev y_Flight_goAll : Nat := 1
abbrev y_Flight_begin : Nat := 2
abbrev y_Flight_goalOf : Nat := 3
abbrev y_Flight_nextChange : Nat := 4
abbrev y_Flight_endInSmoke : Nat := 5
abbrev y_Flight_stepAll : Nat := 6
abbrev y_Flight_lineUp : Nat := 7
abbrev y_Flight_numberOf : Nat := 8
abbrev y_Flight_stepOne : Nat := 9
abbrev y_Flight_mayEnter : Nat := 10
abbrev y_Flight_cameIn : Nat := 11
abbrev y_Flight_move : Nat := 12
abbrev y_Flight_end : Nat := 13
abbrev y_Flight_isInCellBehind : Nat := 14
abbrev y_Flight_cellBehind : Nat := 15
abbrev y_Flight_countBehind : Nat := 16
abbrev y_Numbers_init : Nat := 17
abbrev y_Numbers_forget : Nat := 18
abbrev y_Numbers_rowTo : Nat := 19
abbrev y_Numbers_findAll : Nat := 20
abbrev y_Numbers_foundRowTo : Nat := 21
abbrev y_Numbers_find : Nat := 22
abbrev y_Numbers_spread : Nat := 23
abbrev y_People_init : Nat := 24
abbrev y_People_has : Nat := 25
abbrev y_People_add : Nat := 26
abbrev y_Signposts_init : Nat := 27
abbrev y_Signposts_countTurns : Nat := 28
abbrev y_Signposts_countLeast : Nat := 29
abbrev y_Signposts_isTurn : Nat := 30
abbrev y_Signposts_showTurns : Nat := 31
abbrev y_Signposts_showBeside : Nat := 32
abbrev y_Signposts_listShowings : Nat := 33
abbrev y_Signposts_isListed : Nat := 34
abbrev y_Signposts_leastOf : Nat := 35
abbrev y_Storey_init : Nat := 36
abbrev y_Storey_layCell : Nat := 37
abbrev y_Storey_cellOf : Nat := 38
abbrev y_Storey_openBeside : Nat := 39
abbrev y_Storey_isWall : Nat := 40
abbrev y_Storey_isExit : Nat := 41
abbrev y_Storey_hasRate : Nat := 42
abbrev y_Storey_isBarred : Nat := 43
abbrev y_Storey_isExitNumberOrNone : Nat := 44
abbrev y_Storey_makeWall : Nat := 45
abbrev y_Storey_makeFree : Nat := 46
abbrev y_Storey_makeExit : Nat := 47
abbrev y_Esc_init : Nat := 48
abbrev y_Esc_wall : Nat := 49
abbrev y_Esc_exit : Nat := 50
abbrev y_Esc_door : Nat := 51
abbrev y_Esc_smoke : Nat := 52
abbrev y_Esc_person : Nat := 53
abbrev y_Esc_habit : Nat := 54
abbrev y_Esc_ways : Nat := 55
abbrev y_Esc_walk : Nat := 56
abbrev y_Esc_run : Nat := 57
abbrev y_Esc_told : Nat := 58
abbrev y_Esc_at : Nat := 59
abbrev y_Esc_through : Nat := 60
abbrev y_Esc_left : Nat := 61
abbrev y_Esc_turns : Nat := 62
abbrev y_Esc_signs : Nat := 63
abbrev y_Esc_sideOf : Nat := 64
abbrev y_Esc_isWithin : Nat := 65
abbrev y_Model_init : Nat := 66
abbrev y_Model_thrown : Nat := 67
abbrev y_Model_refuses : Nat := 68
abbrev y_Model_isCell : Nat := 69
abbrev y_Model_cell : Nat := 70
abbrev y_Model_hasPerson : Nat := 71
abbrev y_Model_changed : Nat := 72
abbrev y_Model_wall : Nat := 73
abbrev y_Model_exit : Nat := 74
abbrev y_Model_door : Nat := 75
abbrev y_Model_smoke : Nat := 76
abbrev y_Model_person : Nat := 77
abbrev y_Model_habit : Nat := 78
abbrev y_Model_beside : Nat := 79
abbrev y_Model_isGoal : Nat := 80
abbrev y_Model_find : Nat := 81
abbrev y_Model_learn : Nat := 82
abbrev y_Model_numberOf : Nat := 83
abbrev y_Model_ways : Nat := 84
abbrev y_Model_walk : Nat := 85
abbrev y_Model_goal : Nat := 86
abbrev y_Model_isBarred : Nat := 87
abbrev y_Model_maySteps : Nat := 88
abbrev y_Model_nextOne : Nat := 89
abbrev y_Model_go : Nat := 90
abbrev y_Model_step : Nat := 91
abbrev y_Model_second : Nat := 92
abbrev y_Model_anyWaits : Nat := 93
abbrev y_Model_run : Nat := 94
abbrev y_Model_told : Nat := 95
abbrev y_Model_placeAt : Nat := 96
abbrev y_Model_at : Nat := 97
abbrev y_Model_through : Nat := 98
abbrev y_Model_left : Nat := 99
abbrev y_Model_isTurn : Nat := 100
abbrev y_Model_turns : Nat := 101
abbrev y_Model_isNear : Nat := 102
abbrev y_Model_signs : Nat := 103
abbrev y_Model_shownBy : Nat := 104
abbrev y_Law_cell : Nat := 105
abbrev y_Law_wall : Nat := 106
abbrev y_Law_exit : Nat := 107
abbrev y_Law_door : Nat := 108
abbrev y_Law_smoke : Nat := 109
abbrev y_Law_person : Nat := 110
abbrev y_Law_habit : Nat := 111
abbrev y_Law_walk : Nat := 112
abbrev y_Law_told : Nat := 113
abbrev y_Law_at : Nat := 114
abbrev y_Law_through : Nat := 115
abbrev y_Law_left : Nat := 116
abbrev y_Law_law : Nat := 117
abbrev y_Arrays_fill : Nat := 118
/-- the constructors -/
def m_ini (y : Nat) : Bool := ([true, false, false, false, false, false, false, false, false, false, false, false, false, false, false, false, false, true, false, false, false, false, false, false, true, false, false, true, false, false, false, false, false, false, false, false, true, false, false, false, false, false, false, false, false, false, false, false, true, false, false, false, false, false, false, false, false, false, false, false, false, false, false, false, false, false, true, false, false, false, false, false, false, false, false, false, false, false, false, false, false, false, false, false, false, false, false, false, false, false, false, false, false, false, false, false, false, false, false, false, false, false, false, false, false, false, false, false, false, false, false, false, false, false, false, false, false, false, false] : List Bool).getD y false
/-- what a new object holds; its slots -/
def m_df (ci : Nat) : List Value := ([[.null, .null, .null, .null, .null, .null, .null, .null, .int 0, .null, .null, .null, .null, .null, .null, .null, .null, .null, .int 0], [.null, .null, .null, .null], [.null, .null, .null, .null, .null, .int 0], [.null, .null, .null, .null, .null], [.int 0, .int 0, .int 0, .null, .null, .null, .null, .null, .null, .null, .null, .int 0], [.null, .null, .null, .null, .null, .int 0], [.int 0, .int 0, .int 0, .null, .null, .null, .null, .int 0, .null, .int 0, .null, .null, .null, .null, .int 0, .null, .null, .int 0, .int 0, .null, .null, .null, .null, .null, .null, .null, .null, .null, .null, .null, .null], [], []] : List (List Value)).getD ci []
def m_sz (ci : Nat) : Nat := ([19, 4, 6, 5, 12, 6, 31, 6, 6] : List Nat).getD ci 0
/-- is a field final; its type -/
def m_fin (ci k : Nat) : Bool := (([[true, true, true, true, true, true, true, true, false, true, true, true, true, true, true, true, true, true, false], [true, true, true, true], [true, true, true, true, true, false], [true, true, true, true, true], [true, true, true, true, true, true, true, true, true, true, true, false], [true, true, true, true, true, false], [false, true, true, true, true, true, true, false, true, false, true, true, true, true, false, true, true, false, false, true, true, true, true, true, true, true, true, true, true, true, true]] : List (List Bool)).getD ci []).getD k true
def m_ty (ci k : Nat) : FieldType := (m_tys.getD ci (fun _ => .int)) k
/-- a row of the code: it decodes so, and its target is where it leads -/
def m_tg (pc : Nat) (i : Instr) (t : Nat) : Bool := match i with
  | .if_icmp _ off => decide ((pc : Int) + off = (t : Int))
  | .ifCond _ off => decide ((pc : Int) + off = (t : Int))
  | .goto off => decide ((pc : Int) + off = (t : Int))
  | _ => true
def m_okI (b : ByteArray) (q : Nat × Instr × Nat × Nat) : Bool := decide (decode b q.1 = .ok (q.2.1, q.2.2.1)) && m_tg q.1 q.2.1 q.2.2.2
end
section
/-- EscapeCells$Flight.<init>(LEscapeCells$Storey;LEscapeCells$Numbers;LEscapeCells$People;)V -/
def mc0_0 : List (Nat × Instr × Nat × Nat) := [(0, .aload_n 0, 1, 0), (1, .invokespecial 3, 3, 0), (4, .aload_n 0, 1, 0), (5, .aload_n 1, 1, 0), (6, .putfield 9, 3, 0), (9, .aload_n 0, 1, 0), (10, .aload_n 2, 1, 0), (11, .putfield 15, 3, 0), (14, .aload_n 0, 1, 0), (15, .aload_n 3, 1, 0), (16, .putfield 19, 3, 0), (19, .aload_n 0, 1, 0)]
theorem mk0_0 : (mc0_0).all (m_okI prog_2_method_1_code) = true := by decide +kernel
def mc0_1 : List (Nat × Instr × Nat × Nat) := [(20, .bipush 60, 2, 0), (22, .newarray .int, 2, 0), (24, .putfield 23, 3, 0), (27, .aload_n 0, 1, 0), (28, .bipush 60, 2, 0), (30, .newarray .int, 2, 0), (32, .putfield 27, 3, 0), (35, .aload_n 0, 1, 0), (36, .bipush 60, 2, 0), (38, .newarray .int, 2, 0), (40, .putfield 30, 3, 0), (43, .aload_n 0, 1, 0)]
theorem mk0_1 : (mc0_1).all (m_okI prog_2_method_1_code) = true := by decide +kernel
def mc0_2 : List (Nat × Instr × Nat × Nat) := [(44, .bipush 60, 2, 0), (46, .newarray .int, 2, 0), (48, .putfield 33, 3, 0), (51, .aload_n 0, 1, 0), (52, .aload_n 1, 1, 0), (53, .getfield 36, 3, 0), (56, .newarray .int, 2, 0), (58, .putfield 42, 3, 0), (61, .aload_n 0, 1, 0), (62, .bipush 60, 2, 0), (64, .newarray .int, 2, 0), (66, .putfield 45, 3, 0)]
theorem mk0_2 : (mc0_2).all (m_okI prog_2_method_1_code) = true := by decide +kernel
def mc0_3 : List (Nat × Instr × Nat × Nat) := [(69, .aload_n 0, 1, 0), (70, .bipush 60, 2, 0), (72, .newarray .int, 2, 0), (74, .putfield 48, 3, 0), (77, .aload_n 0, 1, 0), (78, .bipush 60, 2, 0), (80, .newarray .int, 2, 0), (82, .putfield 51, 3, 0), (85, .aload_n 0, 1, 0), (86, .bipush 60, 2, 0), (88, .aload_n 1, 1, 0), (89, .getfield 36, 3, 0)]
theorem mk0_3 : (mc0_3).all (m_okI prog_2_method_1_code) = true := by decide +kernel
def mc0_4 : List (Nat × Instr × Nat × Nat) := [(92, .multianewarray 54 2, 4, 0), (96, .putfield 56, 3, 0), (99, .aload_n 0, 1, 0), (100, .bipush 60, 2, 0), (102, .aload_n 1, 1, 0), (103, .getfield 36, 3, 0), (106, .multianewarray 54 2, 4, 0), (110, .putfield 59, 3, 0), (113, .aload_n 0, 1, 0), (114, .aload_n 1, 1, 0), (115, .getfield 36, 3, 0), (118, .newarray .int, 2, 0)]
theorem mk0_4 : (mc0_4).all (m_okI prog_2_method_1_code) = true := by decide +kernel
def mc0_5 : List (Nat × Instr × Nat × Nat) := [(120, .putfield 62, 3, 0), (123, .aload_n 0, 1, 0), (124, .aload_n 1, 1, 0), (125, .getfield 36, 3, 0), (128, .newarray .int, 2, 0), (130, .putfield 65, 3, 0), (133, .aload_n 0, 1, 0), (134, .aload_n 1, 1, 0), (135, .getfield 36, 3, 0), (138, .newarray .int, 2, 0), (140, .putfield 68, 3, 0), (143, .aload_n 0, 1, 0)]
theorem mk0_5 : (mc0_5).all (m_okI prog_2_method_1_code) = true := by decide +kernel
def mc0_6 : List (Nat × Instr × Nat × Nat) := [(144, .bipush 60, 2, 0), (146, .newarray .int, 2, 0), (148, .putfield 71, 3, 0), (151, .aload_n 0, 1, 0), (152, .iconst 0, 1, 0), (153, .putfield 74, 3, 0), (156, .aload_n 0, 1, 0), (157, .iconst 0, 1, 0), (158, .putfield 77, 3, 0), (161, .return_, 1, 0)]
theorem mk0_6 : (mc0_6).all (m_okI prog_2_method_1_code) = true := by decide +kernel
def mc0 : List (Nat × List (Nat × Instr × Nat × Nat)) := [(20, mc0_0), (44, mc0_1), (67, mc0_2), (90, mc0_3), (119, mc0_4), (144, mc0_5), (162, mc0_6)]
theorem mk0 : ∀ c ∈ mc0, c.2.all (m_okI prog_2_method_1_code) = true := by
  simp only [mc0, List.forall_mem_cons, List.not_mem_nil, false_implies, implies_true, and_true]
  exact ⟨mk0_0, mk0_1, mk0_2, mk0_3, mk0_4, mk0_5, mk0_6⟩
/-- EscapeCells$Flight.goAll()V -/
def mc1_0 : List (Nat × Instr × Nat × Nat) := [(0, .aload_n 0, 1, 0), (1, .invokevirtual 80, 3, 0), (4, .iconst 0, 1, 0), (5, .istore_n 1, 1, 0), (6, .iconst 1, 1, 0), (7, .istore_n 2, 1, 0), (8, .aload_n 0, 1, 0), (9, .getfield 74, 3, 0), (12, .ifCond .le 61, 3, 73), (15, .iload_n 1, 1, 0), (16, .sipush 3600, 3, 0), (19, .if_icmp .ge 54, 3, 73)]
theorem mk1_0 : (mc1_0).all (m_okI prog_2_method_2_code) = true := by decide +kernel
def mc1_1 : List (Nat × Instr × Nat × Nat) := [(22, .iload_n 1, 1, 0), (23, .iconst 1, 1, 0), (24, .iadd, 1, 0), (25, .iload_n 2, 1, 0), (26, .ifCond .eq 7, 3, 33), (29, .iconst 0, 1, 0), (30, .goto 8, 3, 38), (33, .aload_n 0, 1, 0), (34, .iload_n 1, 1, 0), (35, .invokevirtual 83, 3, 0), (38, .invokestatic 87, 3, 0), (41, .istore_n 1, 1, 0)]
theorem mk1_1 : (mc1_1).all (m_okI prog_2_method_2_code) = true := by decide +kernel
def mc1_2 : List (Nat × Instr × Nat × Nat) := [(42, .aload_n 0, 1, 0), (43, .iload_n 1, 1, 0), (44, .invokevirtual 93, 3, 0), (47, .istore_n 3, 1, 0), (48, .aload_n 0, 1, 0), (49, .iload_n 1, 1, 0), (50, .invokevirtual 97, 3, 0), (53, .istore 4, 2, 0), (55, .iload_n 3, 1, 0), (56, .ifCond .ne 8, 3, 64), (59, .iload 4, 2, 0), (61, .ifCond .eq 7, 3, 68)]
theorem mk1_2 : (mc1_2).all (m_okI prog_2_method_2_code) = true := by decide +kernel
def mc1_3 : List (Nat × Instr × Nat × Nat) := [(64, .iconst 1, 1, 0), (65, .goto 4, 3, 69), (68, .iconst 0, 1, 0), (69, .istore_n 2, 1, 0), (70, .goto (-62), 3, 8), (73, .aload_n 0, 1, 0), (74, .iload_n 1, 1, 0), (75, .putfield 77, 3, 0), (78, .return_, 1, 0)]
theorem mk1_3 : (mc1_3).all (m_okI prog_2_method_2_code) = true := by decide +kernel
def mc1 : List (Nat × List (Nat × Instr × Nat × Nat)) := [(20, mc1_0), (42, mc1_1), (62, mc1_2), (79, mc1_3)]
theorem mk1 : ∀ c ∈ mc1, c.2.all (m_okI prog_2_method_2_code) = true := by
  simp only [mc1, List.forall_mem_cons, List.not_mem_nil, false_implies, implies_true, and_true]
  exact ⟨mk1_0, mk1_1, mk1_2, mk1_3⟩
/-- EscapeCells$Flight.begin()V -/
def mc2_0 : List (Nat × Instr × Nat × Nat) := [(0, .aload_n 0, 1, 0), (1, .getfield 19, 3, 0), (4, .getfield 100, 3, 0), (7, .iconst 0, 1, 0), (8, .aload_n 0, 1, 0), (9, .getfield 62, 3, 0), (12, .iconst 0, 1, 0), (13, .aload_n 0, 1, 0), (14, .getfield 62, 3, 0), (17, .arraylength, 1, 0), (18, .invokestatic 103, 3, 0), (21, .aload_n 0, 1, 0)]
theorem mk2_0 : (mc2_0).all (m_okI prog_2_method_3_code) = true := by decide +kernel
def mc2_1 : List (Nat × Instr × Nat × Nat) := [(22, .getfield 42, 3, 0), (25, .iconst 0, 1, 0), (26, .invokestatic 109, 3, 0), (29, .aload_n 0, 1, 0), (30, .getfield 68, 3, 0), (33, .iconst 0, 1, 0), (34, .invokestatic 109, 3, 0), (37, .aload_n 0, 1, 0), (38, .aload_n 0, 1, 0), (39, .getfield 19, 3, 0), (42, .getfield 115, 3, 0), (45, .putfield 74, 3, 0)]
theorem mk2_1 : (mc2_1).all (m_okI prog_2_method_3_code) = true := by decide +kernel
def mc2_2 : List (Nat × Instr × Nat × Nat) := [(48, .iconst 0, 1, 0), (49, .istore_n 1, 1, 0), (50, .iload_n 1, 1, 0), (51, .aload_n 0, 1, 0), (52, .getfield 19, 3, 0), (55, .getfield 115, 3, 0), (58, .if_icmp .ge 88, 3, 146), (61, .aload_n 0, 1, 0), (62, .getfield 23, 3, 0), (65, .iload_n 1, 1, 0), (66, .iconst 0, 1, 0), (67, .iastore, 1, 0)]
theorem mk2_2 : (mc2_2).all (m_okI prog_2_method_3_code) = true := by decide +kernel
def mc2_3 : List (Nat × Instr × Nat × Nat) := [(68, .aload_n 0, 1, 0), (69, .getfield 27, 3, 0), (72, .iload_n 1, 1, 0), (73, .iconst (-1), 1, 0), (74, .iastore, 1, 0), (75, .aload_n 0, 1, 0), (76, .getfield 30, 3, 0), (79, .iload_n 1, 1, 0), (80, .iconst (-1), 1, 0), (81, .iastore, 1, 0), (82, .aload_n 0, 1, 0), (83, .getfield 33, 3, 0)]
theorem mk2_3 : (mc2_3).all (m_okI prog_2_method_3_code) = true := by decide +kernel
def mc2_4 : List (Nat × Instr × Nat × Nat) := [(86, .iload_n 1, 1, 0), (87, .iconst 0, 1, 0), (88, .iastore, 1, 0), (89, .aload_n 0, 1, 0), (90, .getfield 45, 3, 0), (93, .iload_n 1, 1, 0), (94, .aload_n 0, 1, 0), (95, .getfield 19, 3, 0), (98, .getfield 118, 3, 0), (101, .iload_n 1, 1, 0), (102, .iaload, 1, 0), (103, .iastore, 1, 0)]
theorem mk2_4 : (mc2_4).all (m_okI prog_2_method_3_code) = true := by decide +kernel
def mc2_5 : List (Nat × Instr × Nat × Nat) := [(104, .aload_n 0, 1, 0), (105, .getfield 48, 3, 0), (108, .iload_n 1, 1, 0), (109, .aload_n 0, 1, 0), (110, .iload_n 1, 1, 0), (111, .invokevirtual 121, 3, 0), (114, .iastore, 1, 0), (115, .aload_n 0, 1, 0), (116, .getfield 51, 3, 0), (119, .iload_n 1, 1, 0), (120, .aload_n 0, 1, 0), (121, .getfield 19, 3, 0)]
theorem mk2_5 : (mc2_5).all (m_okI prog_2_method_3_code) = true := by decide +kernel
def mc2_6 : List (Nat × Instr × Nat × Nat) := [(124, .getfield 124, 3, 0), (127, .iload_n 1, 1, 0), (128, .iaload, 1, 0), (129, .aload_n 0, 1, 0), (130, .getfield 19, 3, 0), (133, .getfield 127, 3, 0), (136, .iload_n 1, 1, 0), (137, .iaload, 1, 0), (138, .iadd, 1, 0), (139, .iastore, 1, 0), (140, .iinc 1 1, 3, 0), (143, .goto (-93), 3, 50)]
theorem mk2_6 : (mc2_6).all (m_okI prog_2_method_3_code) = true := by decide +kernel
def mc2_7 : List (Nat × Instr × Nat × Nat) := [(146, .return_, 1, 0)]
theorem mk2_7 : (mc2_7).all (m_okI prog_2_method_3_code) = true := by decide +kernel
def mc2 : List (Nat × List (Nat × Instr × Nat × Nat)) := [(22, mc2_0), (46, mc2_1), (68, mc2_2), (84, mc2_3), (104, mc2_4), (122, mc2_5), (144, mc2_6), (147, mc2_7)]
theorem mk2 : ∀ c ∈ mc2, c.2.all (m_okI prog_2_method_3_code) = true := by
  simp only [mc2, List.forall_mem_cons, List.not_mem_nil, false_implies, implies_true, and_true]
  exact ⟨mk2_0, mk2_1, mk2_2, mk2_3, mk2_4, mk2_5, mk2_6, mk2_7⟩
/-- EscapeCells$Flight.goalOf(I)I -/
def mc3_0 : List (Nat × Instr × Nat × Nat) := [(0, .aload_n 0, 1, 0), (1, .getfield 19, 3, 0), (4, .getfield 130, 3, 0), (7, .iload_n 1, 1, 0), (8, .iaload, 1, 0), (9, .istore_n 2, 1, 0), (10, .aload_n 0, 1, 0), (11, .getfield 15, 3, 0), (14, .iload_n 2, 1, 0), (15, .invokevirtual 133, 3, 0), (18, .aload_n 0, 1, 0), (19, .getfield 19, 3, 0)]
theorem mk3_0 : (mc3_0).all (m_okI prog_2_method_4_code) = true := by decide +kernel
def mc3_1 : List (Nat × Instr × Nat × Nat) := [(22, .getfield 118, 3, 0), (25, .iload_n 1, 1, 0), (26, .iaload, 1, 0), (27, .iaload, 1, 0), (28, .iconst (-1), 1, 0), (29, .if_icmp .ne 7, 3, 36), (32, .iconst (-1), 1, 0), (33, .goto 4, 3, 37), (36, .iload_n 2, 1, 0), (37, .ireturn, 1, 0)]
theorem mk3_1 : (mc3_1).all (m_okI prog_2_method_4_code) = true := by decide +kernel
def mc3 : List (Nat × List (Nat × Instr × Nat × Nat)) := [(20, mc3_0), (38, mc3_1)]
theorem mk3 : ∀ c ∈ mc3, c.2.all (m_okI prog_2_method_4_code) = true := by
  simp only [mc3, List.forall_mem_cons, List.not_mem_nil, false_implies, implies_true, and_true]
  exact ⟨mk3_0, mk3_1⟩
/-- EscapeCells$Flight.nextChange(I)I -/
def mc4_0 : List (Nat × Instr × Nat × Nat) := [(0, .sipush 3600, 3, 0), (3, .istore_n 2, 1, 0), (4, .iconst 0, 1, 0), (5, .istore_n 3, 1, 0), (6, .iload_n 3, 1, 0), (7, .aload_n 0, 1, 0), (8, .getfield 19, 3, 0), (11, .getfield 115, 3, 0), (14, .if_icmp .ge 68, 3, 82), (17, .aload_n 0, 1, 0), (18, .getfield 23, 3, 0), (21, .iload_n 3, 1, 0)]
theorem mk4_0 : (mc4_0).all (m_okI prog_2_method_5_code) = true := by decide +kernel
def mc4_1 : List (Nat × Instr × Nat × Nat) := [(22, .iaload, 1, 0), (23, .ifCond .ne 53, 3, 76), (26, .aload_n 0, 1, 0), (27, .getfield 51, 3, 0), (30, .iload_n 3, 1, 0), (31, .iaload, 1, 0), (32, .istore 4, 2, 0), (34, .iload 4, 2, 0), (36, .iload_n 1, 1, 0), (37, .if_icmp .le 10, 3, 47), (40, .iload_n 2, 1, 0), (41, .iload 4, 2, 0)]
theorem mk4_1 : (mc4_1).all (m_okI prog_2_method_5_code) = true := by decide +kernel
def mc4_2 : List (Nat × Instr × Nat × Nat) := [(43, .invokestatic 139, 3, 0), (46, .istore_n 2, 1, 0), (47, .aload_n 0, 1, 0), (48, .getfield 9, 3, 0), (51, .getfield 142, 3, 0), (54, .aload_n 0, 1, 0), (55, .getfield 45, 3, 0), (58, .iload_n 3, 1, 0), (59, .iaload, 1, 0), (60, .iaload, 1, 0), (61, .istore 5, 2, 0), (63, .iload 5, 2, 0)]
theorem mk4_2 : (mc4_2).all (m_okI prog_2_method_5_code) = true := by decide +kernel
def mc4_3 : List (Nat × Instr × Nat × Nat) := [(65, .iload_n 1, 1, 0), (66, .if_icmp .le 10, 3, 76), (69, .iload_n 2, 1, 0), (70, .iload 5, 2, 0), (72, .invokestatic 139, 3, 0), (75, .istore_n 2, 1, 0), (76, .iinc 3 1, 3, 0), (79, .goto (-73), 3, 6), (82, .iload_n 2, 1, 0), (83, .ireturn, 1, 0)]
theorem mk4_3 : (mc4_3).all (m_okI prog_2_method_5_code) = true := by decide +kernel
def mc4 : List (Nat × List (Nat × Instr × Nat × Nat)) := [(22, mc4_0), (42, mc4_1), (64, mc4_2), (84, mc4_3)]
theorem mk4 : ∀ c ∈ mc4, c.2.all (m_okI prog_2_method_5_code) = true := by
  simp only [mc4, List.forall_mem_cons, List.not_mem_nil, false_implies, implies_true, and_true]
  exact ⟨mk4_0, mk4_1, mk4_2, mk4_3⟩
/-- EscapeCells$Flight.endInSmoke(I)Z -/
def mc5_0 : List (Nat × Instr × Nat × Nat) := [(0, .iconst 0, 1, 0), (1, .istore_n 2, 1, 0), (2, .iconst 0, 1, 0), (3, .istore_n 3, 1, 0), (4, .iload_n 3, 1, 0), (5, .aload_n 0, 1, 0), (6, .getfield 19, 3, 0), (9, .getfield 115, 3, 0), (12, .if_icmp .ge 56, 3, 68), (15, .aload_n 0, 1, 0), (16, .getfield 23, 3, 0), (19, .iload_n 3, 1, 0)]
theorem mk5_0 : (mc5_0).all (m_okI prog_2_method_6_code) = true := by decide +kernel
def mc5_1 : List (Nat × Instr × Nat × Nat) := [(20, .iaload, 1, 0), (21, .ifCond .ne 41, 3, 62), (24, .aload_n 0, 1, 0), (25, .getfield 9, 3, 0), (28, .aload_n 0, 1, 0), (29, .getfield 45, 3, 0), (32, .iload_n 3, 1, 0), (33, .iaload, 1, 0), (34, .iload_n 1, 1, 0), (35, .invokevirtual 145, 3, 0), (38, .ifCond .eq 24, 3, 62), (41, .aload_n 0, 1, 0)]
theorem mk5_1 : (mc5_1).all (m_okI prog_2_method_6_code) = true := by decide +kernel
def mc5_2 : List (Nat × Instr × Nat × Nat) := [(42, .getfield 62, 3, 0), (45, .aload_n 0, 1, 0), (46, .getfield 45, 3, 0), (49, .iload_n 3, 1, 0), (50, .iaload, 1, 0), (51, .iconst (-1), 1, 0), (52, .iastore, 1, 0), (53, .aload_n 0, 1, 0), (54, .iload_n 3, 1, 0), (55, .iconst 2, 1, 0), (56, .iload_n 1, 1, 0), (57, .invokevirtual 149, 3, 0)]
theorem mk5_2 : (mc5_2).all (m_okI prog_2_method_6_code) = true := by decide +kernel
def mc5_3 : List (Nat × Instr × Nat × Nat) := [(60, .iconst 1, 1, 0), (61, .istore_n 2, 1, 0), (62, .iinc 3 1, 3, 0), (65, .goto (-61), 3, 4), (68, .iload_n 2, 1, 0), (69, .ireturn, 1, 0)]
theorem mk5_3 : (mc5_3).all (m_okI prog_2_method_6_code) = true := by decide +kernel
def mc5 : List (Nat × List (Nat × Instr × Nat × Nat)) := [(20, mc5_0), (42, mc5_1), (58, mc5_2), (70, mc5_3)]
theorem mk5 : ∀ c ∈ mc5, c.2.all (m_okI prog_2_method_6_code) = true := by
  simp only [mc5, List.forall_mem_cons, List.not_mem_nil, false_implies, implies_true, and_true]
  exact ⟨mk5_0, mk5_1, mk5_2, mk5_3⟩
/-- EscapeCells$Flight.stepAll(I)Z -/
def mc6_0 : List (Nat × Instr × Nat × Nat) := [(0, .iconst 0, 1, 0), (1, .istore_n 2, 1, 0), (2, .aload_n 0, 1, 0), (3, .iload_n 1, 1, 0), (4, .invokevirtual 153, 3, 0), (7, .istore_n 3, 1, 0), (8, .iconst 0, 1, 0), (9, .istore 4, 2, 0), (11, .iload 4, 2, 0), (13, .iload_n 3, 1, 0), (14, .if_icmp .ge 26, 3, 40), (17, .aload_n 0, 1, 0)]
theorem mk6_0 : (mc6_0).all (m_okI prog_2_method_7_code) = true := by decide +kernel
def mc6_1 : List (Nat × Instr × Nat × Nat) := [(18, .aload_n 0, 1, 0), (19, .getfield 71, 3, 0), (22, .iload 4, 2, 0), (24, .iaload, 1, 0), (25, .iload_n 1, 1, 0), (26, .invokevirtual 156, 3, 0), (29, .ifCond .eq 5, 3, 34), (32, .iconst 1, 1, 0), (33, .istore_n 2, 1, 0), (34, .iinc 4 1, 3, 0), (37, .goto (-26), 3, 11), (40, .iload_n 2, 1, 0)]
theorem mk6_1 : (mc6_1).all (m_okI prog_2_method_7_code) = true := by decide +kernel
def mc6_2 : List (Nat × Instr × Nat × Nat) := [(41, .ireturn, 1, 0)]
theorem mk6_2 : (mc6_2).all (m_okI prog_2_method_7_code) = true := by decide +kernel
def mc6 : List (Nat × List (Nat × Instr × Nat × Nat)) := [(18, mc6_0), (41, mc6_1), (42, mc6_2)]
theorem mk6 : ∀ c ∈ mc6, c.2.all (m_okI prog_2_method_7_code) = true := by
  simp only [mc6, List.forall_mem_cons, List.not_mem_nil, false_implies, implies_true, and_true]
  exact ⟨mk6_0, mk6_1, mk6_2⟩
/-- EscapeCells$Flight.lineUp(I)I -/
def mc7_0 : List (Nat × Instr × Nat × Nat) := [(0, .iconst 0, 1, 0), (1, .istore_n 2, 1, 0), (2, .iconst 0, 1, 0), (3, .istore_n 3, 1, 0), (4, .iload_n 3, 1, 0), (5, .aload_n 0, 1, 0), (6, .getfield 19, 3, 0), (9, .getfield 115, 3, 0), (12, .if_icmp .ge 103, 3, 115), (15, .aload_n 0, 1, 0), (16, .getfield 23, 3, 0), (19, .iload_n 3, 1, 0)]
theorem mk7_0 : (mc7_0).all (m_okI prog_2_method_8_code) = true := by decide +kernel
def mc7_1 : List (Nat × Instr × Nat × Nat) := [(20, .iaload, 1, 0), (21, .ifCond .ne 88, 3, 109), (24, .aload_n 0, 1, 0), (25, .getfield 51, 3, 0), (28, .iload_n 3, 1, 0), (29, .iaload, 1, 0), (30, .iload_n 1, 1, 0), (31, .if_icmp .gt 78, 3, 109), (34, .aload_n 0, 1, 0), (35, .iload_n 3, 1, 0), (36, .invokevirtual 159, 3, 0), (39, .iconst (-1), 1, 0)]
theorem mk7_1 : (mc7_1).all (m_okI prog_2_method_8_code) = true := by decide +kernel
def mc7_2 : List (Nat × Instr × Nat × Nat) := [(40, .if_icmp .eq 69, 3, 109), (43, .aload_n 0, 1, 0), (44, .iload_n 3, 1, 0), (45, .invokevirtual 159, 3, 0), (48, .istore 4, 2, 0), (50, .iload_n 2, 1, 0), (51, .istore 5, 2, 0), (53, .iload 5, 2, 0), (55, .ifCond .le 43, 3, 98), (58, .aload_n 0, 1, 0), (59, .aload_n 0, 1, 0), (60, .getfield 71, 3, 0)]
theorem mk7_2 : (mc7_2).all (m_okI prog_2_method_8_code) = true := by decide +kernel
def mc7_3 : List (Nat × Instr × Nat × Nat) := [(63, .iload 5, 2, 0), (65, .iconst 1, 1, 0), (66, .isub, 1, 0), (67, .iaload, 1, 0), (68, .invokevirtual 159, 3, 0), (71, .iload 4, 2, 0), (73, .if_icmp .le 25, 3, 98), (76, .aload_n 0, 1, 0), (77, .getfield 71, 3, 0), (80, .iload 5, 2, 0), (82, .aload_n 0, 1, 0), (83, .getfield 71, 3, 0)]
theorem mk7_3 : (mc7_3).all (m_okI prog_2_method_8_code) = true := by decide +kernel
def mc7_4 : List (Nat × Instr × Nat × Nat) := [(86, .iload 5, 2, 0), (88, .iconst 1, 1, 0), (89, .isub, 1, 0), (90, .iaload, 1, 0), (91, .iastore, 1, 0), (92, .iinc 5 (-1), 3, 0), (95, .goto (-42), 3, 53), (98, .aload_n 0, 1, 0), (99, .getfield 71, 3, 0), (102, .iload 5, 2, 0), (104, .iload_n 3, 1, 0), (105, .iastore, 1, 0)]
theorem mk7_4 : (mc7_4).all (m_okI prog_2_method_8_code) = true := by decide +kernel
def mc7_5 : List (Nat × Instr × Nat × Nat) := [(106, .iinc 2 1, 3, 0), (109, .iinc 3 1, 3, 0), (112, .goto (-108), 3, 4), (115, .iload_n 2, 1, 0), (116, .ireturn, 1, 0)]
theorem mk7_5 : (mc7_5).all (m_okI prog_2_method_8_code) = true := by decide +kernel
def mc7 : List (Nat × List (Nat × Instr × Nat × Nat)) := [(20, mc7_0), (40, mc7_1), (61, mc7_2), (84, mc7_3), (106, mc7_4), (117, mc7_5)]
theorem mk7 : ∀ c ∈ mc7, c.2.all (m_okI prog_2_method_8_code) = true := by
  simp only [mc7, List.forall_mem_cons, List.not_mem_nil, false_implies, implies_true, and_true]
  exact ⟨mk7_0, mk7_1, mk7_2, mk7_3, mk7_4, mk7_5⟩
/-- EscapeCells$Flight.numberOf(I)I -/
def mc8_0 : List (Nat × Instr × Nat × Nat) := [(0, .aload_n 0, 1, 0), (1, .getfield 15, 3, 0), (4, .aload_n 0, 1, 0), (5, .getfield 48, 3, 0), (8, .iload_n 1, 1, 0), (9, .iaload, 1, 0), (10, .invokevirtual 133, 3, 0), (13, .aload_n 0, 1, 0), (14, .getfield 45, 3, 0), (17, .iload_n 1, 1, 0), (18, .iaload, 1, 0), (19, .iaload, 1, 0)]
theorem mk8_0 : (mc8_0).all (m_okI prog_2_method_9_code) = true := by decide +kernel
def mc8_1 : List (Nat × Instr × Nat × Nat) := [(20, .ireturn, 1, 0)]
theorem mk8_1 : (mc8_1).all (m_okI prog_2_method_9_code) = true := by decide +kernel
def mc8 : List (Nat × List (Nat × Instr × Nat × Nat)) := [(20, mc8_0), (21, mc8_1)]
theorem mk8 : ∀ c ∈ mc8, c.2.all (m_okI prog_2_method_9_code) = true := by
  simp only [mc8, List.forall_mem_cons, List.not_mem_nil, false_implies, implies_true, and_true]
  exact ⟨mk8_0, mk8_1⟩
/-- EscapeCells$Flight.stepOne(II)Z -/
def mc9_0 : List (Nat × Instr × Nat × Nat) := [(0, .aload_n 0, 1, 0), (1, .getfield 15, 3, 0), (4, .aload_n 0, 1, 0), (5, .getfield 48, 3, 0), (8, .iload_n 1, 1, 0), (9, .iaload, 1, 0), (10, .invokevirtual 133, 3, 0), (13, .astore_n 3, 1, 0), (14, .aload_n 0, 1, 0), (15, .getfield 45, 3, 0), (18, .iload_n 1, 1, 0), (19, .iaload, 1, 0)]
theorem mk9_0 : (mc9_0).all (m_okI prog_2_method_10_code) = true := by decide +kernel
def mc9_1 : List (Nat × Instr × Nat × Nat) := [(20, .istore 4, 2, 0), (22, .iconst 0, 1, 0), (23, .istore 5, 2, 0), (25, .iload 5, 2, 0), (27, .iconst 4, 1, 0), (28, .if_icmp .ge 108, 3, 136), (31, .aload_n 0, 1, 0), (32, .getfield 9, 3, 0), (35, .iload 4, 2, 0), (37, .iload 5, 2, 0), (39, .invokevirtual 162, 3, 0), (42, .istore 6, 2, 0)]
theorem mk9_1 : (mc9_1).all (m_okI prog_2_method_10_code) = true := by decide +kernel
def mc9_2 : List (Nat × Instr × Nat × Nat) := [(44, .iload 6, 2, 0), (46, .iconst (-1), 1, 0), (47, .if_icmp .eq 83, 3, 130), (50, .aload_n 3, 1, 0), (51, .iload 6, 2, 0), (53, .iaload, 1, 0), (54, .iconst (-1), 1, 0), (55, .if_icmp .eq 75, 3, 130), (58, .aload_n 3, 1, 0), (59, .iload 6, 2, 0), (61, .iaload, 1, 0), (62, .aload_n 3, 1, 0)]
theorem mk9_2 : (mc9_2).all (m_okI prog_2_method_10_code) = true := by decide +kernel
def mc9_3 : List (Nat × Instr × Nat × Nat) := [(63, .iload 4, 2, 0), (65, .iaload, 1, 0), (66, .if_icmp .ge 64, 3, 130), (69, .aload_n 0, 1, 0), (70, .iload 6, 2, 0), (72, .iload_n 2, 1, 0), (73, .invokevirtual 165, 3, 0), (76, .ifCond .eq 54, 3, 130), (79, .aload_n 0, 1, 0), (80, .iload_n 1, 1, 0), (81, .iload 6, 2, 0), (83, .iload_n 2, 1, 0)]
theorem mk9_3 : (mc9_3).all (m_okI prog_2_method_10_code) = true := by decide +kernel
def mc9_4 : List (Nat × Instr × Nat × Nat) := [(84, .invokevirtual 168, 3, 0), (87, .aload_n 3, 1, 0), (88, .iload 6, 2, 0), (90, .iaload, 1, 0), (91, .ifCond .ne 29, 3, 120), (94, .aload_n 0, 1, 0), (95, .getfield 30, 3, 0), (98, .iload_n 1, 1, 0), (99, .aload_n 0, 1, 0), (100, .getfield 9, 3, 0), (103, .getfield 171, 3, 0), (106, .iload 6, 2, 0)]
theorem mk9_4 : (mc9_4).all (m_okI prog_2_method_10_code) = true := by decide +kernel
def mc9_5 : List (Nat × Instr × Nat × Nat) := [(108, .iaload, 1, 0), (109, .iastore, 1, 0), (110, .aload_n 0, 1, 0), (111, .iload_n 1, 1, 0), (112, .iconst 1, 1, 0), (113, .iload_n 2, 1, 0), (114, .invokevirtual 149, 3, 0), (117, .goto 11, 3, 128), (120, .aload_n 0, 1, 0), (121, .getfield 62, 3, 0), (124, .iload 6, 2, 0), (126, .iload_n 1, 1, 0)]
theorem mk9_5 : (mc9_5).all (m_okI prog_2_method_10_code) = true := by decide +kernel
def mc9_6 : List (Nat × Instr × Nat × Nat) := [(127, .iastore, 1, 0), (128, .iconst 1, 1, 0), (129, .ireturn, 1, 0), (130, .iinc 5 1, 3, 0), (133, .goto (-108), 3, 25), (136, .iconst 0, 1, 0), (137, .ireturn, 1, 0)]
theorem mk9_6 : (mc9_6).all (m_okI prog_2_method_10_code) = true := by decide +kernel
def mc9 : List (Nat × List (Nat × Instr × Nat × Nat)) := [(20, mc9_0), (43, mc9_1), (63, mc9_2), (84, mc9_3), (107, mc9_4), (127, mc9_5), (138, mc9_6)]
theorem mk9 : ∀ c ∈ mc9, c.2.all (m_okI prog_2_method_10_code) = true := by
  simp only [mc9, List.forall_mem_cons, List.not_mem_nil, false_implies, implies_true, and_true]
  exact ⟨mk9_0, mk9_1, mk9_2, mk9_3, mk9_4, mk9_5, mk9_6⟩
/-- EscapeCells$Flight.mayEnter(II)Z -/
def mc10_0 : List (Nat × Instr × Nat × Nat) := [(0, .aload_n 0, 1, 0), (1, .getfield 62, 3, 0), (4, .iload_n 1, 1, 0), (5, .iaload, 1, 0), (6, .iconst (-1), 1, 0), (7, .if_icmp .ne 15, 3, 22), (10, .aload_n 0, 1, 0), (11, .getfield 9, 3, 0), (14, .iload_n 1, 1, 0), (15, .iload_n 2, 1, 0), (16, .invokevirtual 145, 3, 0), (19, .ifCond .eq 5, 3, 24)]
theorem mk10_0 : (mc10_0).all (m_okI prog_2_method_11_code) = true := by decide +kernel
def mc10_1 : List (Nat × Instr × Nat × Nat) := [(22, .iconst 0, 1, 0), (23, .ireturn, 1, 0), (24, .aload_n 0, 1, 0), (25, .getfield 9, 3, 0), (28, .iload_n 1, 1, 0), (29, .invokevirtual 174, 3, 0), (32, .ifCond .eq 21, 3, 53), (35, .aload_n 0, 1, 0), (36, .iload_n 1, 1, 0), (37, .iload_n 2, 1, 0), (38, .invokevirtual 177, 3, 0), (41, .aload_n 0, 1, 0)]
theorem mk10_1 : (mc10_1).all (m_okI prog_2_method_11_code) = true := by decide +kernel
def mc10_2 : List (Nat × Instr × Nat × Nat) := [(42, .getfield 9, 3, 0), (45, .getfield 180, 3, 0), (48, .iload_n 1, 1, 0), (49, .iaload, 1, 0), (50, .if_icmp .ge 7, 3, 57), (53, .iconst 1, 1, 0), (54, .goto 4, 3, 58), (57, .iconst 0, 1, 0), (58, .ireturn, 1, 0)]
theorem mk10_2 : (mc10_2).all (m_okI prog_2_method_11_code) = true := by decide +kernel
def mc10 : List (Nat × List (Nat × Instr × Nat × Nat)) := [(20, mc10_0), (42, mc10_1), (59, mc10_2)]
theorem mk10 : ∀ c ∈ mc10, c.2.all (m_okI prog_2_method_11_code) = true := by
  simp only [mc10, List.forall_mem_cons, List.not_mem_nil, false_implies, implies_true, and_true]
  exact ⟨mk10_0, mk10_1, mk10_2⟩
/-- EscapeCells$Flight.cameIn(II)I -/
def mc11_0 : List (Nat × Instr × Nat × Nat) := [(0, .aload_n 0, 1, 0), (1, .getfield 68, 3, 0), (4, .iload_n 1, 1, 0), (5, .iaload, 1, 0), (6, .iload_n 2, 1, 0), (7, .if_icmp .ne 12, 3, 19), (10, .aload_n 0, 1, 0), (11, .getfield 65, 3, 0), (14, .iload_n 1, 1, 0), (15, .iaload, 1, 0), (16, .goto 4, 3, 20), (19, .iconst 0, 1, 0)]
theorem mk11_0 : (mc11_0).all (m_okI prog_2_method_12_code) = true := by decide +kernel
def mc11_1 : List (Nat × Instr × Nat × Nat) := [(20, .ireturn, 1, 0)]
theorem mk11_1 : (mc11_1).all (m_okI prog_2_method_12_code) = true := by decide +kernel
def mc11 : List (Nat × List (Nat × Instr × Nat × Nat)) := [(20, mc11_0), (21, mc11_1)]
theorem mk11 : ∀ c ∈ mc11, c.2.all (m_okI prog_2_method_12_code) = true := by
  simp only [mc11, List.forall_mem_cons, List.not_mem_nil, false_implies, implies_true, and_true]
  exact ⟨mk11_0, mk11_1⟩
/-- EscapeCells$Flight.move(III)V -/
def mc12_0 : List (Nat × Instr × Nat × Nat) := [(0, .aload_n 0, 1, 0), (1, .getfield 65, 3, 0), (4, .iload_n 2, 1, 0), (5, .aload_n 0, 1, 0), (6, .iload_n 2, 1, 0), (7, .iload_n 3, 1, 0), (8, .invokevirtual 177, 3, 0), (11, .iconst 1, 1, 0), (12, .iadd, 1, 0), (13, .iastore, 1, 0), (14, .aload_n 0, 1, 0), (15, .getfield 68, 3, 0)]
theorem mk12_0 : (mc12_0).all (m_okI prog_2_method_13_code) = true := by decide +kernel
def mc12_1 : List (Nat × Instr × Nat × Nat) := [(18, .iload_n 2, 1, 0), (19, .iload_n 3, 1, 0), (20, .iastore, 1, 0), (21, .aload_n 0, 1, 0), (22, .getfield 42, 3, 0), (25, .iload_n 2, 1, 0), (26, .dup2, 1, 0), (27, .iaload, 1, 0), (28, .iconst 1, 1, 0), (29, .iadd, 1, 0), (30, .iastore, 1, 0), (31, .aload_n 0, 1, 0)]
theorem mk12_1 : (mc12_1).all (m_okI prog_2_method_13_code) = true := by decide +kernel
def mc12_2 : List (Nat × Instr × Nat × Nat) := [(32, .getfield 62, 3, 0), (35, .aload_n 0, 1, 0), (36, .getfield 45, 3, 0), (39, .iload_n 1, 1, 0), (40, .iaload, 1, 0), (41, .iconst (-1), 1, 0), (42, .iastore, 1, 0), (43, .aload_n 0, 1, 0), (44, .getfield 45, 3, 0), (47, .iload_n 1, 1, 0), (48, .iload_n 2, 1, 0), (49, .iastore, 1, 0)]
theorem mk12_2 : (mc12_2).all (m_okI prog_2_method_13_code) = true := by decide +kernel
def mc12_3 : List (Nat × Instr × Nat × Nat) := [(50, .aload_n 0, 1, 0), (51, .getfield 51, 3, 0), (54, .iload_n 1, 1, 0), (55, .iload_n 3, 1, 0), (56, .aload_n 0, 1, 0), (57, .getfield 19, 3, 0), (60, .getfield 127, 3, 0), (63, .iload_n 1, 1, 0), (64, .iaload, 1, 0), (65, .iadd, 1, 0), (66, .iastore, 1, 0), (67, .aload_n 0, 1, 0)]
theorem mk12_3 : (mc12_3).all (m_okI prog_2_method_13_code) = true := by decide +kernel
def mc12_4 : List (Nat × Instr × Nat × Nat) := [(68, .getfield 33, 3, 0), (71, .iload_n 1, 1, 0), (72, .iaload, 1, 0), (73, .istore 4, 2, 0), (75, .iload 4, 2, 0), (77, .aload_n 0, 1, 0), (78, .getfield 9, 3, 0), (81, .getfield 36, 3, 0), (84, .if_icmp .ge 33, 3, 117), (87, .aload_n 0, 1, 0), (88, .getfield 56, 3, 0), (91, .iload_n 1, 1, 0)]
theorem mk12_4 : (mc12_4).all (m_okI prog_2_method_13_code) = true := by decide +kernel
def mc12_5 : List (Nat × Instr × Nat × Nat) := [(92, .aaload, 1, 0), (93, .iload 4, 2, 0), (95, .iload_n 3, 1, 0), (96, .iastore, 1, 0), (97, .aload_n 0, 1, 0), (98, .getfield 59, 3, 0), (101, .iload_n 1, 1, 0), (102, .aaload, 1, 0), (103, .iload 4, 2, 0), (105, .iload_n 2, 1, 0), (106, .iastore, 1, 0), (107, .aload_n 0, 1, 0)]
theorem mk12_5 : (mc12_5).all (m_okI prog_2_method_13_code) = true := by decide +kernel
def mc12_6 : List (Nat × Instr × Nat × Nat) := [(108, .getfield 33, 3, 0), (111, .iload_n 1, 1, 0), (112, .iload 4, 2, 0), (114, .iconst 1, 1, 0), (115, .iadd, 1, 0), (116, .iastore, 1, 0), (117, .return_, 1, 0)]
theorem mk12_6 : (mc12_6).all (m_okI prog_2_method_13_code) = true := by decide +kernel
def mc12 : List (Nat × List (Nat × Instr × Nat × Nat)) := [(16, mc12_0), (32, mc12_1), (50, mc12_2), (68, mc12_3), (92, mc12_4), (108, mc12_5), (118, mc12_6)]
theorem mk12 : ∀ c ∈ mc12, c.2.all (m_okI prog_2_method_13_code) = true := by
  simp only [mc12, List.forall_mem_cons, List.not_mem_nil, false_implies, implies_true, and_true]
  exact ⟨mk12_0, mk12_1, mk12_2, mk12_3, mk12_4, mk12_5, mk12_6⟩
/-- EscapeCells$Flight.end(III)V -/
def mc13_0 : List (Nat × Instr × Nat × Nat) := [(0, .aload_n 0, 1, 0), (1, .getfield 23, 3, 0), (4, .iload_n 1, 1, 0), (5, .iload_n 2, 1, 0), (6, .iastore, 1, 0), (7, .aload_n 0, 1, 0), (8, .getfield 27, 3, 0), (11, .iload_n 1, 1, 0), (12, .iload_n 3, 1, 0), (13, .iastore, 1, 0), (14, .aload_n 0, 1, 0), (15, .dup, 1, 0)]
theorem mk13_0 : (mc13_0).all (m_okI prog_2_method_14_code) = true := by decide +kernel
def mc13_1 : List (Nat × Instr × Nat × Nat) := [(16, .getfield 74, 3, 0), (19, .iconst 1, 1, 0), (20, .isub, 1, 0), (21, .putfield 74, 3, 0), (24, .return_, 1, 0)]
theorem mk13_1 : (mc13_1).all (m_okI prog_2_method_14_code) = true := by decide +kernel
def mc13 : List (Nat × List (Nat × Instr × Nat × Nat)) := [(16, mc13_0), (25, mc13_1)]
theorem mk13 : ∀ c ∈ mc13, c.2.all (m_okI prog_2_method_14_code) = true := by
  simp only [mc13, List.forall_mem_cons, List.not_mem_nil, false_implies, implies_true, and_true]
  exact ⟨mk13_0, mk13_1⟩
/-- EscapeCells$Flight.isInCellBehind(II)Z -/
def mc14_0 : List (Nat × Instr × Nat × Nat) := [(0, .aload_n 0, 1, 0), (1, .getfield 23, 3, 0), (4, .iload_n 1, 1, 0), (5, .iaload, 1, 0), (6, .ifCond .eq 13, 3, 19), (9, .aload_n 0, 1, 0), (10, .getfield 27, 3, 0), (13, .iload_n 1, 1, 0), (14, .iaload, 1, 0), (15, .iload_n 2, 1, 0), (16, .if_icmp .le 7, 3, 23), (19, .iconst 1, 1, 0)]
theorem mk14_0 : (mc14_0).all (m_okI prog_2_method_15_code) = true := by decide +kernel
def mc14_1 : List (Nat × Instr × Nat × Nat) := [(20, .goto 4, 3, 24), (23, .iconst 0, 1, 0), (24, .ireturn, 1, 0)]
theorem mk14_1 : (mc14_1).all (m_okI prog_2_method_15_code) = true := by decide +kernel
def mc14 : List (Nat × List (Nat × Instr × Nat × Nat)) := [(20, mc14_0), (25, mc14_1)]
theorem mk14 : ∀ c ∈ mc14, c.2.all (m_okI prog_2_method_15_code) = true := by
  simp only [mc14, List.forall_mem_cons, List.not_mem_nil, false_implies, implies_true, and_true]
  exact ⟨mk14_0, mk14_1⟩
end
section
/-- EscapeCells$Flight.cellBehind(II)I -/
def mc15_0 : List (Nat × Instr × Nat × Nat) := [(0, .aload_n 0, 1, 0), (1, .iload_n 1, 1, 0), (2, .iload_n 2, 1, 0), (3, .invokevirtual 183, 3, 0), (6, .ifCond .ne 5, 3, 11), (9, .iconst (-1), 1, 0), (10, .ireturn, 1, 0), (11, .aload_n 0, 1, 0), (12, .getfield 19, 3, 0), (15, .getfield 118, 3, 0), (18, .iload_n 1, 1, 0), (19, .iaload, 1, 0)]
theorem mk15_0 : (mc15_0).all (m_okI prog_2_method_16_code) = true := by decide +kernel
def mc15_1 : List (Nat × Instr × Nat × Nat) := [(20, .istore_n 3, 1, 0), (21, .iconst 0, 1, 0), (22, .istore 4, 2, 0), (24, .iload 4, 2, 0), (26, .aload_n 0, 1, 0), (27, .getfield 33, 3, 0), (30, .iload_n 1, 1, 0), (31, .iaload, 1, 0), (32, .if_icmp .ge 32, 3, 64), (35, .aload_n 0, 1, 0), (36, .getfield 56, 3, 0), (39, .iload_n 1, 1, 0)]
theorem mk15_1 : (mc15_1).all (m_okI prog_2_method_16_code) = true := by decide +kernel
def mc15_2 : List (Nat × Instr × Nat × Nat) := [(40, .aaload, 1, 0), (41, .iload 4, 2, 0), (43, .iaload, 1, 0), (44, .iload_n 2, 1, 0), (45, .if_icmp .gt 19, 3, 64), (48, .aload_n 0, 1, 0), (49, .getfield 59, 3, 0), (52, .iload_n 1, 1, 0), (53, .aaload, 1, 0), (54, .iload 4, 2, 0), (56, .iaload, 1, 0), (57, .istore_n 3, 1, 0)]
theorem mk15_2 : (mc15_2).all (m_okI prog_2_method_16_code) = true := by decide +kernel
def mc15_3 : List (Nat × Instr × Nat × Nat) := [(58, .iinc 4 1, 3, 0), (61, .goto (-37), 3, 24), (64, .iload_n 3, 1, 0), (65, .ireturn, 1, 0)]
theorem mk15_3 : (mc15_3).all (m_okI prog_2_method_16_code) = true := by decide +kernel
def mc15 : List (Nat × List (Nat × Instr × Nat × Nat)) := [(20, mc15_0), (40, mc15_1), (58, mc15_2), (66, mc15_3)]
theorem mk15 : ∀ c ∈ mc15, c.2.all (m_okI prog_2_method_16_code) = true := by
  simp only [mc15, List.forall_mem_cons, List.not_mem_nil, false_implies, implies_true, and_true]
  exact ⟨mk15_0, mk15_1, mk15_2, mk15_3⟩
/-- EscapeCells$Flight.countBehind(I)I -/
def mc16_0 : List (Nat × Instr × Nat × Nat) := [(0, .iconst 0, 1, 0), (1, .istore_n 2, 1, 0), (2, .iconst 0, 1, 0), (3, .istore_n 3, 1, 0), (4, .iload_n 3, 1, 0), (5, .aload_n 0, 1, 0), (6, .getfield 19, 3, 0), (9, .getfield 115, 3, 0), (12, .if_icmp .ge 21, 3, 33), (15, .aload_n 0, 1, 0), (16, .iload_n 3, 1, 0), (17, .iload_n 1, 1, 0)]
theorem mk16_0 : (mc16_0).all (m_okI prog_2_method_17_code) = true := by decide +kernel
def mc16_1 : List (Nat × Instr × Nat × Nat) := [(18, .invokevirtual 183, 3, 0), (21, .ifCond .eq 6, 3, 27), (24, .iinc 2 1, 3, 0), (27, .iinc 3 1, 3, 0), (30, .goto (-26), 3, 4), (33, .iload_n 2, 1, 0), (34, .ireturn, 1, 0)]
theorem mk16_1 : (mc16_1).all (m_okI prog_2_method_17_code) = true := by decide +kernel
def mc16 : List (Nat × List (Nat × Instr × Nat × Nat)) := [(18, mc16_0), (35, mc16_1)]
theorem mk16 : ∀ c ∈ mc16, c.2.all (m_okI prog_2_method_17_code) = true := by
  simp only [mc16, List.forall_mem_cons, List.not_mem_nil, false_implies, implies_true, and_true]
  exact ⟨mk16_0, mk16_1⟩
/-- EscapeCells$Numbers.<init>(LEscapeCells$Storey;)V -/
def mc17_0 : List (Nat × Instr × Nat × Nat) := [(0, .aload_n 0, 1, 0), (1, .invokespecial 3, 3, 0), (4, .aload_n 0, 1, 0), (5, .aload_n 1, 1, 0), (6, .putfield 9, 3, 0), (9, .aload_n 0, 1, 0), (10, .bipush 9, 2, 0), (12, .aload_n 1, 1, 0), (13, .getfield 15, 3, 0), (16, .multianewarray 21 2, 4, 0), (20, .putfield 23, 3, 0), (23, .aload_n 0, 1, 0)]
theorem mk17_0 : (mc17_0).all (m_okI prog_3_method_1_code) = true := by decide +kernel
def mc17_1 : List (Nat × Instr × Nat × Nat) := [(24, .bipush 9, 2, 0), (26, .newarray .boolean, 2, 0), (28, .putfield 26, 3, 0), (31, .aload_n 0, 1, 0), (32, .aload_n 1, 1, 0), (33, .getfield 15, 3, 0), (36, .newarray .int, 2, 0), (38, .putfield 30, 3, 0), (41, .return_, 1, 0)]
theorem mk17_1 : (mc17_1).all (m_okI prog_3_method_1_code) = true := by decide +kernel
def mc17 : List (Nat × List (Nat × Instr × Nat × Nat)) := [(24, mc17_0), (42, mc17_1)]
theorem mk17 : ∀ c ∈ mc17, c.2.all (m_okI prog_3_method_1_code) = true := by
  simp only [mc17, List.forall_mem_cons, List.not_mem_nil, false_implies, implies_true, and_true]
  exact ⟨mk17_0, mk17_1⟩
/-- EscapeCells$Numbers.forget()V -/
def mc18_0 : List (Nat × Instr × Nat × Nat) := [(0, .iconst 0, 1, 0), (1, .istore_n 1, 1, 0), (2, .iload_n 1, 1, 0), (3, .aload_n 0, 1, 0), (4, .getfield 26, 3, 0), (7, .arraylength, 1, 0), (8, .if_icmp .ge 16, 3, 24), (11, .aload_n 0, 1, 0), (12, .getfield 26, 3, 0), (15, .iload_n 1, 1, 0), (16, .iconst 0, 1, 0), (17, .bastore, 1, 0)]
theorem mk18_0 : (mc18_0).all (m_okI prog_3_method_2_code) = true := by decide +kernel
def mc18_1 : List (Nat × Instr × Nat × Nat) := [(18, .iinc 1 1, 3, 0), (21, .goto (-19), 3, 2), (24, .return_, 1, 0)]
theorem mk18_1 : (mc18_1).all (m_okI prog_3_method_2_code) = true := by decide +kernel
def mc18 : List (Nat × List (Nat × Instr × Nat × Nat)) := [(18, mc18_0), (25, mc18_1)]
theorem mk18 : ∀ c ∈ mc18, c.2.all (m_okI prog_3_method_2_code) = true := by
  simp only [mc18, List.forall_mem_cons, List.not_mem_nil, false_implies, implies_true, and_true]
  exact ⟨mk18_0, mk18_1⟩
/-- EscapeCells$Numbers.rowTo(I)[I -/
def mc19_0 : List (Nat × Instr × Nat × Nat) := [(0, .iload_n 1, 1, 0), (1, .iconst 1, 1, 0), (2, .iadd, 1, 0), (3, .istore_n 2, 1, 0), (4, .aload_n 0, 1, 0), (5, .getfield 26, 3, 0), (8, .iload_n 2, 1, 0), (9, .baload, 1, 0), (10, .ifCond .ne 21, 3, 31), (13, .aload_n 0, 1, 0), (14, .iload_n 1, 1, 0), (15, .aload_n 0, 1, 0)]
theorem mk19_0 : (mc19_0).all (m_okI prog_3_method_3_code) = true := by decide +kernel
def mc19_1 : List (Nat × Instr × Nat × Nat) := [(16, .getfield 23, 3, 0), (19, .iload_n 2, 1, 0), (20, .aaload, 1, 0), (21, .invokevirtual 34, 3, 0), (24, .aload_n 0, 1, 0), (25, .getfield 26, 3, 0), (28, .iload_n 2, 1, 0), (29, .iconst 1, 1, 0), (30, .bastore, 1, 0), (31, .aload_n 0, 1, 0), (32, .getfield 23, 3, 0), (35, .iload_n 2, 1, 0)]
theorem mk19_1 : (mc19_1).all (m_okI prog_3_method_3_code) = true := by decide +kernel
def mc19_2 : List (Nat × Instr × Nat × Nat) := [(36, .aaload, 1, 0), (37, .areturn, 1, 0)]
theorem mk19_2 : (mc19_2).all (m_okI prog_3_method_3_code) = true := by decide +kernel
def mc19 : List (Nat × List (Nat × Instr × Nat × Nat)) := [(16, mc19_0), (36, mc19_1), (38, mc19_2)]
theorem mk19 : ∀ c ∈ mc19, c.2.all (m_okI prog_3_method_3_code) = true := by
  simp only [mc19, List.forall_mem_cons, List.not_mem_nil, false_implies, implies_true, and_true]
  exact ⟨mk19_0, mk19_1, mk19_2⟩
/-- EscapeCells$Numbers.findAll()V -/
def mc20_0 : List (Nat × Instr × Nat × Nat) := [(0, .iconst (-1), 1, 0), (1, .istore_n 1, 1, 0), (2, .iload_n 1, 1, 0), (3, .aload_n 0, 1, 0), (4, .getfield 9, 3, 0), (7, .getfield 38, 3, 0), (10, .if_icmp .ge 15, 3, 25), (13, .aload_n 0, 1, 0), (14, .iload_n 1, 1, 0), (15, .invokevirtual 41, 3, 0), (18, .pop, 1, 0), (19, .iinc 1 1, 3, 0)]
theorem mk20_0 : (mc20_0).all (m_okI prog_3_method_4_code) = true := by decide +kernel
def mc20_1 : List (Nat × Instr × Nat × Nat) := [(22, .goto (-20), 3, 2), (25, .return_, 1, 0)]
theorem mk20_1 : (mc20_1).all (m_okI prog_3_method_4_code) = true := by decide +kernel
def mc20 : List (Nat × List (Nat × Instr × Nat × Nat)) := [(20, mc20_0), (26, mc20_1)]
theorem mk20 : ∀ c ∈ mc20, c.2.all (m_okI prog_3_method_4_code) = true := by
  simp only [mc20, List.forall_mem_cons, List.not_mem_nil, false_implies, implies_true, and_true]
  exact ⟨mk20_0, mk20_1⟩
/-- EscapeCells$Numbers.foundRowTo(I)[I -/
def mc21_0 : List (Nat × Instr × Nat × Nat) := [(0, .aload_n 0, 1, 0), (1, .getfield 23, 3, 0), (4, .iload_n 1, 1, 0), (5, .iconst 1, 1, 0), (6, .iadd, 1, 0), (7, .aaload, 1, 0), (8, .areturn, 1, 0)]
theorem mk21_0 : (mc21_0).all (m_okI prog_3_method_5_code) = true := by decide +kernel
def mc21 : List (Nat × List (Nat × Instr × Nat × Nat)) := [(9, mc21_0)]
theorem mk21 : ∀ c ∈ mc21, c.2.all (m_okI prog_3_method_5_code) = true := by
  simp only [mc21, List.forall_mem_cons, List.not_mem_nil, false_implies, implies_true, and_true]
  exact mk21_0
/-- EscapeCells$Numbers.find(I[I)V -/
def mc22_0 : List (Nat × Instr × Nat × Nat) := [(0, .aload_n 2, 1, 0), (1, .iconst (-1), 1, 0), (2, .invokestatic 45, 3, 0), (5, .iconst 0, 1, 0), (6, .istore_n 3, 1, 0), (7, .iconst 0, 1, 0), (8, .istore 4, 2, 0), (10, .iload 4, 2, 0), (12, .aload_n 0, 1, 0), (13, .getfield 9, 3, 0), (16, .getfield 38, 3, 0), (19, .if_icmp .ge 54, 3, 73)]
theorem mk22_0 : (mc22_0).all (m_okI prog_3_method_6_code) = true := by decide +kernel
def mc22_1 : List (Nat × Instr × Nat × Nat) := [(22, .aload_n 0, 1, 0), (23, .getfield 9, 3, 0), (26, .getfield 51, 3, 0), (29, .iload 4, 2, 0), (31, .iaload, 1, 0), (32, .istore 5, 2, 0), (34, .iload 5, 2, 0), (36, .iconst (-1), 1, 0), (37, .if_icmp .eq 30, 3, 67), (40, .iload_n 1, 1, 0), (41, .iconst (-1), 1, 0), (42, .if_icmp .eq 9, 3, 51)]
theorem mk22_1 : (mc22_1).all (m_okI prog_3_method_6_code) = true := by decide +kernel
def mc22_2 : List (Nat × Instr × Nat × Nat) := [(45, .iload_n 1, 1, 0), (46, .iload 4, 2, 0), (48, .if_icmp .ne 19, 3, 67), (51, .aload_n 2, 1, 0), (52, .iload 5, 2, 0), (54, .iconst 0, 1, 0), (55, .iastore, 1, 0), (56, .aload_n 0, 1, 0), (57, .getfield 30, 3, 0), (60, .iload_n 3, 1, 0), (61, .iload 5, 2, 0), (63, .iastore, 1, 0)]
theorem mk22_2 : (mc22_2).all (m_okI prog_3_method_6_code) = true := by decide +kernel
def mc22_3 : List (Nat × Instr × Nat × Nat) := [(64, .iinc 3 1, 3, 0), (67, .iinc 4 1, 3, 0), (70, .goto (-60), 3, 10), (73, .iconst 0, 1, 0), (74, .istore 4, 2, 0), (76, .iload 4, 2, 0), (78, .iload_n 3, 1, 0), (79, .if_icmp .ge 33, 3, 112), (82, .iload 4, 2, 0), (84, .aload_n 0, 1, 0), (85, .getfield 30, 3, 0), (88, .arraylength, 1, 0)]
theorem mk22_3 : (mc22_3).all (m_okI prog_3_method_6_code) = true := by decide +kernel
def mc22_4 : List (Nat × Instr × Nat × Nat) := [(89, .if_icmp .ge 23, 3, 112), (92, .aload_n 0, 1, 0), (93, .aload_n 0, 1, 0), (94, .getfield 30, 3, 0), (97, .iload 4, 2, 0), (99, .iaload, 1, 0), (100, .aload_n 2, 1, 0), (101, .iload_n 3, 1, 0), (102, .invokevirtual 54, 3, 0), (105, .istore_n 3, 1, 0), (106, .iinc 4 1, 3, 0), (109, .goto (-33), 3, 76)]
theorem mk22_4 : (mc22_4).all (m_okI prog_3_method_6_code) = true := by decide +kernel
def mc22_5 : List (Nat × Instr × Nat × Nat) := [(112, .return_, 1, 0)]
theorem mk22_5 : (mc22_5).all (m_okI prog_3_method_6_code) = true := by decide +kernel
def mc22 : List (Nat × List (Nat × Instr × Nat × Nat)) := [(20, mc22_0), (43, mc22_1), (64, mc22_2), (89, mc22_3), (110, mc22_4), (113, mc22_5)]
theorem mk22 : ∀ c ∈ mc22, c.2.all (m_okI prog_3_method_6_code) = true := by
  simp only [mc22, List.forall_mem_cons, List.not_mem_nil, false_implies, implies_true, and_true]
  exact ⟨mk22_0, mk22_1, mk22_2, mk22_3, mk22_4, mk22_5⟩
/-- EscapeCells$Numbers.spread(I[II)I -/
def mc23_0 : List (Nat × Instr × Nat × Nat) := [(0, .iload_n 3, 1, 0), (1, .istore 4, 2, 0), (3, .iconst 0, 1, 0), (4, .istore 5, 2, 0), (6, .iload 5, 2, 0), (8, .iconst 4, 1, 0), (9, .if_icmp .ge 66, 3, 75), (12, .aload_n 0, 1, 0), (13, .getfield 9, 3, 0), (16, .iload_n 1, 1, 0), (17, .iload 5, 2, 0), (19, .invokevirtual 58, 3, 0)]
theorem mk23_0 : (mc23_0).all (m_okI prog_3_method_7_code) = true := by decide +kernel
def mc23_1 : List (Nat × Instr × Nat × Nat) := [(22, .istore 6, 2, 0), (24, .iload 6, 2, 0), (26, .iconst (-1), 1, 0), (27, .if_icmp .eq 42, 3, 69), (30, .aload_n 2, 1, 0), (31, .iload 6, 2, 0), (33, .iaload, 1, 0), (34, .iconst (-1), 1, 0), (35, .if_icmp .ne 34, 3, 69), (38, .iload 4, 2, 0), (40, .aload_n 0, 1, 0), (41, .getfield 30, 3, 0)]
theorem mk23_1 : (mc23_1).all (m_okI prog_3_method_7_code) = true := by decide +kernel
def mc23_2 : List (Nat × Instr × Nat × Nat) := [(44, .arraylength, 1, 0), (45, .if_icmp .ge 24, 3, 69), (48, .aload_n 2, 1, 0), (49, .iload 6, 2, 0), (51, .aload_n 2, 1, 0), (52, .iload_n 1, 1, 0), (53, .iaload, 1, 0), (54, .iconst 1, 1, 0), (55, .iadd, 1, 0), (56, .iastore, 1, 0), (57, .aload_n 0, 1, 0), (58, .getfield 30, 3, 0)]
theorem mk23_2 : (mc23_2).all (m_okI prog_3_method_7_code) = true := by decide +kernel
def mc23_3 : List (Nat × Instr × Nat × Nat) := [(61, .iload 4, 2, 0), (63, .iload 6, 2, 0), (65, .iastore, 1, 0), (66, .iinc 4 1, 3, 0), (69, .iinc 5 1, 3, 0), (72, .goto (-66), 3, 6), (75, .iload 4, 2, 0), (77, .ireturn, 1, 0)]
theorem mk23_3 : (mc23_3).all (m_okI prog_3_method_7_code) = true := by decide +kernel
def mc23 : List (Nat × List (Nat × Instr × Nat × Nat)) := [(20, mc23_0), (42, mc23_1), (59, mc23_2), (78, mc23_3)]
theorem mk23 : ∀ c ∈ mc23, c.2.all (m_okI prog_3_method_7_code) = true := by
  simp only [mc23, List.forall_mem_cons, List.not_mem_nil, false_implies, implies_true, and_true]
  exact ⟨mk23_0, mk23_1, mk23_2, mk23_3⟩
/-- EscapeCells$People.<init>(I)V -/
def mc24_0 : List (Nat × Instr × Nat × Nat) := [(0, .aload_n 0, 1, 0), (1, .invokespecial 3, 3, 0), (4, .aload_n 0, 1, 0), (5, .bipush 60, 2, 0), (7, .newarray .int, 2, 0), (9, .putfield 9, 3, 0), (12, .aload_n 0, 1, 0), (13, .bipush 60, 2, 0), (15, .newarray .int, 2, 0), (17, .putfield 15, 3, 0), (20, .aload_n 0, 1, 0), (21, .bipush 60, 2, 0)]
theorem mk24_0 : (mc24_0).all (m_okI prog_4_method_1_code) = true := by decide +kernel
def mc24_1 : List (Nat × Instr × Nat × Nat) := [(23, .newarray .int, 2, 0), (25, .putfield 18, 3, 0), (28, .aload_n 0, 1, 0), (29, .bipush 60, 2, 0), (31, .newarray .int, 2, 0), (33, .putfield 21, 3, 0), (36, .aload_n 0, 1, 0), (37, .iload_n 1, 1, 0), (38, .newarray .int, 2, 0), (40, .putfield 24, 3, 0), (43, .aload_n 0, 1, 0), (44, .iconst 0, 1, 0)]
theorem mk24_1 : (mc24_1).all (m_okI prog_4_method_1_code) = true := by decide +kernel
def mc24_2 : List (Nat × Instr × Nat × Nat) := [(45, .putfield 27, 3, 0), (48, .aload_n 0, 1, 0), (49, .getfield 24, 3, 0), (52, .iconst (-1), 1, 0), (53, .invokestatic 31, 3, 0), (56, .return_, 1, 0)]
theorem mk24_2 : (mc24_2).all (m_okI prog_4_method_1_code) = true := by decide +kernel
def mc24 : List (Nat × List (Nat × Instr × Nat × Nat)) := [(22, mc24_0), (45, mc24_1), (57, mc24_2)]
theorem mk24 : ∀ c ∈ mc24, c.2.all (m_okI prog_4_method_1_code) = true := by
  simp only [mc24, List.forall_mem_cons, List.not_mem_nil, false_implies, implies_true, and_true]
  exact ⟨mk24_0, mk24_1, mk24_2⟩
/-- EscapeCells$People.has(I)Z -/
def mc25_0 : List (Nat × Instr × Nat × Nat) := [(0, .iload_n 1, 1, 0), (1, .ifCond .lt 15, 3, 16), (4, .iload_n 1, 1, 0), (5, .aload_n 0, 1, 0), (6, .getfield 27, 3, 0), (9, .if_icmp .ge 7, 3, 16), (12, .iconst 1, 1, 0), (13, .goto 4, 3, 17), (16, .iconst 0, 1, 0), (17, .ireturn, 1, 0)]
theorem mk25_0 : (mc25_0).all (m_okI prog_4_method_2_code) = true := by decide +kernel
def mc25 : List (Nat × List (Nat × Instr × Nat × Nat)) := [(18, mc25_0)]
theorem mk25 : ∀ c ∈ mc25, c.2.all (m_okI prog_4_method_2_code) = true := by
  simp only [mc25, List.forall_mem_cons, List.not_mem_nil, false_implies, implies_true, and_true]
  exact mk25_0
/-- EscapeCells$People.add(III)I -/
def mc26_0 : List (Nat × Instr × Nat × Nat) := [(0, .aload_n 0, 1, 0), (1, .getfield 27, 3, 0), (4, .istore 4, 2, 0), (6, .iload 4, 2, 0), (8, .bipush 60, 2, 0), (10, .if_icmp .lt 5, 3, 15), (13, .iconst (-1), 1, 0), (14, .ireturn, 1, 0), (15, .aload_n 0, 1, 0), (16, .getfield 9, 3, 0), (19, .iload 4, 2, 0), (21, .iload_n 1, 1, 0)]
theorem mk26_0 : (mc26_0).all (m_okI prog_4_method_3_code) = true := by decide +kernel
def mc26_1 : List (Nat × Instr × Nat × Nat) := [(22, .iastore, 1, 0), (23, .aload_n 0, 1, 0), (24, .getfield 15, 3, 0), (27, .iload 4, 2, 0), (29, .iload_n 2, 1, 0), (30, .iastore, 1, 0), (31, .aload_n 0, 1, 0), (32, .getfield 18, 3, 0), (35, .iload 4, 2, 0), (37, .iload_n 3, 1, 0), (38, .iastore, 1, 0), (39, .aload_n 0, 1, 0)]
theorem mk26_1 : (mc26_1).all (m_okI prog_4_method_3_code) = true := by decide +kernel
def mc26_2 : List (Nat × Instr × Nat × Nat) := [(40, .getfield 21, 3, 0), (43, .iload 4, 2, 0), (45, .iconst (-1), 1, 0), (46, .iastore, 1, 0), (47, .aload_n 0, 1, 0), (48, .getfield 24, 3, 0), (51, .iload_n 1, 1, 0), (52, .iload 4, 2, 0), (54, .iastore, 1, 0), (55, .aload_n 0, 1, 0), (56, .dup, 1, 0), (57, .getfield 27, 3, 0)]
theorem mk26_2 : (mc26_2).all (m_okI prog_4_method_3_code) = true := by decide +kernel
def mc26_3 : List (Nat × Instr × Nat × Nat) := [(60, .iconst 1, 1, 0), (61, .iadd, 1, 0), (62, .putfield 27, 3, 0), (65, .iload 4, 2, 0), (67, .ireturn, 1, 0)]
theorem mk26_3 : (mc26_3).all (m_okI prog_4_method_3_code) = true := by decide +kernel
def mc26 : List (Nat × List (Nat × Instr × Nat × Nat)) := [(22, mc26_0), (40, mc26_1), (58, mc26_2), (68, mc26_3)]
theorem mk26 : ∀ c ∈ mc26, c.2.all (m_okI prog_4_method_3_code) = true := by
  simp only [mc26, List.forall_mem_cons, List.not_mem_nil, false_implies, implies_true, and_true]
  exact ⟨mk26_0, mk26_1, mk26_2, mk26_3⟩
/-- EscapeCells$Signposts.<init>(LEscapeCells$Storey;)V -/
def mc27_0 : List (Nat × Instr × Nat × Nat) := [(0, .aload_n 0, 1, 0), (1, .invokespecial 3, 3, 0), (4, .aload_n 0, 1, 0), (5, .aload_n 1, 1, 0), (6, .putfield 9, 3, 0), (9, .aload_n 0, 1, 0), (10, .bipush 12, 2, 0), (12, .newarray .int, 2, 0), (14, .putfield 15, 3, 0), (17, .aload_n 0, 1, 0), (18, .aload_n 1, 1, 0), (19, .getfield 19, 3, 0)]
theorem mk27_0 : (mc27_0).all (m_okI prog_5_method_1_code) = true := by decide +kernel
def mc27_1 : List (Nat × Instr × Nat × Nat) := [(22, .newarray .int, 2, 0), (24, .putfield 25, 3, 0), (27, .aload_n 0, 1, 0), (28, .sipush 156, 3, 0), (31, .newarray .int, 2, 0), (33, .putfield 28, 3, 0), (36, .aload_n 0, 1, 0), (37, .sipush 4096, 3, 0), (40, .newarray .int, 2, 0), (42, .putfield 31, 3, 0), (45, .return_, 1, 0)]
theorem mk27_1 : (mc27_1).all (m_okI prog_5_method_1_code) = true := by decide +kernel
def mc27 : List (Nat × List (Nat × Instr × Nat × Nat)) := [(20, mc27_0), (46, mc27_1)]
theorem mk27 : ∀ c ∈ mc27, c.2.all (m_okI prog_5_method_1_code) = true := by
  simp only [mc27, List.forall_mem_cons, List.not_mem_nil, false_implies, implies_true, and_true]
  exact ⟨mk27_0, mk27_1⟩
/-- EscapeCells$Signposts.countTurns([I)I -/
def mc28_0 : List (Nat × Instr × Nat × Nat) := [(0, .iconst 0, 1, 0), (1, .istore_n 2, 1, 0), (2, .iconst 0, 1, 0), (3, .istore_n 3, 1, 0), (4, .iload_n 3, 1, 0), (5, .aload_n 0, 1, 0), (6, .getfield 9, 3, 0), (9, .getfield 19, 3, 0), (12, .if_icmp .ge 21, 3, 33), (15, .aload_n 0, 1, 0), (16, .iload_n 3, 1, 0), (17, .aload_n 1, 1, 0)]
theorem mk28_0 : (mc28_0).all (m_okI prog_5_method_2_code) = true := by decide +kernel
def mc28_1 : List (Nat × Instr × Nat × Nat) := [(18, .invokevirtual 34, 3, 0), (21, .ifCond .eq 6, 3, 27), (24, .iinc 2 1, 3, 0), (27, .iinc 3 1, 3, 0), (30, .goto (-26), 3, 4), (33, .iload_n 2, 1, 0), (34, .ireturn, 1, 0)]
theorem mk28_1 : (mc28_1).all (m_okI prog_5_method_2_code) = true := by decide +kernel
def mc28 : List (Nat × List (Nat × Instr × Nat × Nat)) := [(18, mc28_0), (35, mc28_1)]
theorem mk28 : ∀ c ∈ mc28, c.2.all (m_okI prog_5_method_2_code) = true := by
  simp only [mc28, List.forall_mem_cons, List.not_mem_nil, false_implies, implies_true, and_true]
  exact ⟨mk28_0, mk28_1⟩
/-- EscapeCells$Signposts.countLeast([I)I -/
def mc29_0 : List (Nat × Instr × Nat × Nat) := [(0, .iconst 0, 1, 0), (1, .istore_n 2, 1, 0), (2, .iconst 0, 1, 0), (3, .istore_n 3, 1, 0), (4, .iload_n 3, 1, 0), (5, .aload_n 0, 1, 0), (6, .getfield 9, 3, 0), (9, .getfield 19, 3, 0), (12, .if_icmp .ge 36, 3, 48), (15, .aload_n 0, 1, 0), (16, .iload_n 3, 1, 0), (17, .aload_n 1, 1, 0)]
theorem mk29_0 : (mc29_0).all (m_okI prog_5_method_3_code) = true := by decide +kernel
def mc29_1 : List (Nat × Instr × Nat × Nat) := [(18, .invokevirtual 34, 3, 0), (21, .ifCond .eq 21, 3, 42), (24, .iload_n 2, 1, 0), (25, .bipush 12, 2, 0), (27, .if_icmp .lt 5, 3, 32), (30, .iconst (-1), 1, 0), (31, .ireturn, 1, 0), (32, .aload_n 0, 1, 0), (33, .getfield 15, 3, 0), (36, .iload_n 2, 1, 0), (37, .iload_n 3, 1, 0), (38, .iastore, 1, 0)]
theorem mk29_1 : (mc29_1).all (m_okI prog_5_method_3_code) = true := by decide +kernel
def mc29_2 : List (Nat × Instr × Nat × Nat) := [(39, .iinc 2 1, 3, 0), (42, .iinc 3 1, 3, 0), (45, .goto (-41), 3, 4), (48, .aload_n 0, 1, 0), (49, .iload_n 2, 1, 0), (50, .invokevirtual 38, 3, 0), (53, .aload_n 0, 1, 0), (54, .iload_n 2, 1, 0), (55, .aload_n 0, 1, 0), (56, .invokevirtual 42, 3, 0), (59, .invokevirtual 46, 3, 0), (62, .ireturn, 1, 0)]
theorem mk29_2 : (mc29_2).all (m_okI prog_5_method_3_code) = true := by decide +kernel
def mc29 : List (Nat × List (Nat × Instr × Nat × Nat)) := [(18, mc29_0), (39, mc29_1), (63, mc29_2)]
theorem mk29 : ∀ c ∈ mc29, c.2.all (m_okI prog_5_method_3_code) = true := by
  simp only [mc29, List.forall_mem_cons, List.not_mem_nil, false_implies, implies_true, and_true]
  exact ⟨mk29_0, mk29_1, mk29_2⟩
/-- EscapeCells$Signposts.isTurn(I[I)Z -/
def mc30_0 : List (Nat × Instr × Nat × Nat) := [(0, .iconst 0, 1, 0), (1, .istore_n 3, 1, 0), (2, .iconst 0, 1, 0), (3, .istore 4, 2, 0), (5, .iload 4, 2, 0), (7, .iconst 4, 1, 0), (8, .if_icmp .ge 48, 3, 56), (11, .aload_n 0, 1, 0), (12, .getfield 9, 3, 0), (15, .iload_n 1, 1, 0), (16, .iload 4, 2, 0), (18, .invokevirtual 50, 3, 0)]
theorem mk30_0 : (mc30_0).all (m_okI prog_5_method_4_code) = true := by decide +kernel
def mc30_1 : List (Nat × Instr × Nat × Nat) := [(21, .istore 5, 2, 0), (23, .iload 5, 2, 0), (25, .iconst (-1), 1, 0), (26, .if_icmp .eq 24, 3, 50), (29, .aload_n 2, 1, 0), (30, .iload 5, 2, 0), (32, .iaload, 1, 0), (33, .iconst (-1), 1, 0), (34, .if_icmp .eq 16, 3, 50), (37, .aload_n 2, 1, 0), (38, .iload 5, 2, 0), (40, .iaload, 1, 0)]
theorem mk30_1 : (mc30_1).all (m_okI prog_5_method_4_code) = true := by decide +kernel
def mc30_2 : List (Nat × Instr × Nat × Nat) := [(41, .aload_n 2, 1, 0), (42, .iload_n 1, 1, 0), (43, .iaload, 1, 0), (44, .if_icmp .ge 6, 3, 50), (47, .iinc 3 1, 3, 0), (50, .iinc 4 1, 3, 0), (53, .goto (-48), 3, 5), (56, .iload_n 3, 1, 0), (57, .iconst 2, 1, 0), (58, .if_icmp .lt 7, 3, 65), (61, .iconst 1, 1, 0), (62, .goto 4, 3, 66)]
theorem mk30_2 : (mc30_2).all (m_okI prog_5_method_4_code) = true := by decide +kernel
def mc30_3 : List (Nat × Instr × Nat × Nat) := [(65, .iconst 0, 1, 0), (66, .ireturn, 1, 0)]
theorem mk30_3 : (mc30_3).all (m_okI prog_5_method_4_code) = true := by decide +kernel
def mc30 : List (Nat × List (Nat × Instr × Nat × Nat)) := [(19, mc30_0), (41, mc30_1), (63, mc30_2), (67, mc30_3)]
theorem mk30 : ∀ c ∈ mc30, c.2.all (m_okI prog_5_method_4_code) = true := by
  simp only [mc30, List.forall_mem_cons, List.not_mem_nil, false_implies, implies_true, and_true]
  exact ⟨mk30_0, mk30_1, mk30_2, mk30_3⟩
/-- EscapeCells$Signposts.showTurns(I)V -/
def mc31_0 : List (Nat × Instr × Nat × Nat) := [(0, .aload_n 0, 1, 0), (1, .getfield 25, 3, 0), (4, .iconst 0, 1, 0), (5, .invokestatic 53, 3, 0), (8, .iconst 0, 1, 0), (9, .istore_n 2, 1, 0), (10, .iload_n 2, 1, 0), (11, .iload_n 1, 1, 0), (12, .if_icmp .ge 84, 3, 96), (15, .iconst 1, 1, 0), (16, .iload_n 2, 1, 0), (17, .ishl, 1, 0)]
theorem mk31_0 : (mc31_0).all (m_okI prog_5_method_5_code) = true := by decide +kernel
def mc31_1 : List (Nat × Instr × Nat × Nat) := [(18, .istore_n 3, 1, 0), (19, .aload_n 0, 1, 0), (20, .getfield 15, 3, 0), (23, .iload_n 2, 1, 0), (24, .iaload, 1, 0), (25, .istore 4, 2, 0), (27, .aload_n 0, 1, 0), (28, .getfield 25, 3, 0), (31, .iload 4, 2, 0), (33, .dup2, 1, 0), (34, .iaload, 1, 0), (35, .iload_n 3, 1, 0)]
theorem mk31_1 : (mc31_1).all (m_okI prog_5_method_5_code) = true := by decide +kernel
def mc31_2 : List (Nat × Instr × Nat × Nat) := [(36, .ior, 1, 0), (37, .iastore, 1, 0), (38, .iconst 0, 1, 0), (39, .istore 5, 2, 0), (41, .iload 5, 2, 0), (43, .iconst 4, 1, 0), (44, .if_icmp .ge 46, 3, 90), (47, .aload_n 0, 1, 0), (48, .getfield 9, 3, 0), (51, .iload 4, 2, 0), (53, .iload 5, 2, 0), (55, .invokevirtual 50, 3, 0)]
theorem mk31_2 : (mc31_2).all (m_okI prog_5_method_5_code) = true := by decide +kernel
def mc31_3 : List (Nat × Instr × Nat × Nat) := [(58, .istore 6, 2, 0), (60, .iload 6, 2, 0), (62, .iconst (-1), 1, 0), (63, .if_icmp .eq 21, 3, 84), (66, .aload_n 0, 1, 0), (67, .getfield 25, 3, 0), (70, .iload 6, 2, 0), (72, .dup2, 1, 0), (73, .iaload, 1, 0), (74, .iload_n 3, 1, 0), (75, .ior, 1, 0), (76, .iastore, 1, 0)]
theorem mk31_3 : (mc31_3).all (m_okI prog_5_method_5_code) = true := by decide +kernel
def mc31_4 : List (Nat × Instr × Nat × Nat) := [(77, .aload_n 0, 1, 0), (78, .iload 6, 2, 0), (80, .iload_n 3, 1, 0), (81, .invokevirtual 59, 3, 0), (84, .iinc 5 1, 3, 0), (87, .goto (-46), 3, 41), (90, .iinc 2 1, 3, 0), (93, .goto (-83), 3, 10), (96, .return_, 1, 0)]
theorem mk31_4 : (mc31_4).all (m_okI prog_5_method_5_code) = true := by decide +kernel
def mc31 : List (Nat × List (Nat × Instr × Nat × Nat)) := [(18, mc31_0), (36, mc31_1), (56, mc31_2), (77, mc31_3), (97, mc31_4)]
theorem mk31 : ∀ c ∈ mc31, c.2.all (m_okI prog_5_method_5_code) = true := by
  simp only [mc31, List.forall_mem_cons, List.not_mem_nil, false_implies, implies_true, and_true]
  exact ⟨mk31_0, mk31_1, mk31_2, mk31_3, mk31_4⟩
/-- EscapeCells$Signposts.showBeside(II)V -/
def mc32_0 : List (Nat × Instr × Nat × Nat) := [(0, .iconst 0, 1, 0), (1, .istore_n 3, 1, 0), (2, .iload_n 3, 1, 0), (3, .iconst 4, 1, 0), (4, .if_icmp .ge 37, 3, 41), (7, .aload_n 0, 1, 0), (8, .getfield 9, 3, 0), (11, .iload_n 1, 1, 0), (12, .iload_n 3, 1, 0), (13, .invokevirtual 50, 3, 0), (16, .istore 4, 2, 0), (18, .iload 4, 2, 0)]
theorem mk32_0 : (mc32_0).all (m_okI prog_5_method_6_code) = true := by decide +kernel
def mc32_1 : List (Nat × Instr × Nat × Nat) := [(20, .iconst (-1), 1, 0), (21, .if_icmp .eq 14, 3, 35), (24, .aload_n 0, 1, 0), (25, .getfield 25, 3, 0), (28, .iload 4, 2, 0), (30, .dup2, 1, 0), (31, .iaload, 1, 0), (32, .iload_n 2, 1, 0), (33, .ior, 1, 0), (34, .iastore, 1, 0), (35, .iinc 3 1, 3, 0), (38, .goto (-36), 3, 2)]
theorem mk32_1 : (mc32_1).all (m_okI prog_5_method_6_code) = true := by decide +kernel
def mc32_2 : List (Nat × Instr × Nat × Nat) := [(41, .return_, 1, 0)]
theorem mk32_2 : (mc32_2).all (m_okI prog_5_method_6_code) = true := by decide +kernel
def mc32 : List (Nat × List (Nat × Instr × Nat × Nat)) := [(19, mc32_0), (39, mc32_1), (42, mc32_2)]
theorem mk32 : ∀ c ∈ mc32, c.2.all (m_okI prog_5_method_6_code) = true := by
  simp only [mc32, List.forall_mem_cons, List.not_mem_nil, false_implies, implies_true, and_true]
  exact ⟨mk32_0, mk32_1, mk32_2⟩
/-- EscapeCells$Signposts.listShowings()I -/
def mc33_0 : List (Nat × Instr × Nat × Nat) := [(0, .iconst 0, 1, 0), (1, .istore_n 1, 1, 0), (2, .iconst 0, 1, 0), (3, .istore_n 2, 1, 0), (4, .iload_n 2, 1, 0), (5, .aload_n 0, 1, 0), (6, .getfield 9, 3, 0), (9, .getfield 19, 3, 0), (12, .if_icmp .ge 54, 3, 66), (15, .aload_n 0, 1, 0), (16, .getfield 25, 3, 0), (19, .iload_n 2, 1, 0)]
theorem mk33_0 : (mc33_0).all (m_okI prog_5_method_7_code) = true := by decide +kernel
def mc33_1 : List (Nat × Instr × Nat × Nat) := [(20, .iaload, 1, 0), (21, .ifCond .eq 39, 3, 60), (24, .iload_n 1, 1, 0), (25, .sipush 156, 3, 0), (28, .if_icmp .ge 32, 3, 60), (31, .aload_n 0, 1, 0), (32, .aload_n 0, 1, 0), (33, .getfield 25, 3, 0), (36, .iload_n 2, 1, 0), (37, .iaload, 1, 0), (38, .iload_n 1, 1, 0), (39, .invokevirtual 63, 3, 0)]
theorem mk33_1 : (mc33_1).all (m_okI prog_5_method_7_code) = true := by decide +kernel
def mc33_2 : List (Nat × Instr × Nat × Nat) := [(42, .ifCond .ne 18, 3, 60), (45, .aload_n 0, 1, 0), (46, .getfield 28, 3, 0), (49, .iload_n 1, 1, 0), (50, .aload_n 0, 1, 0), (51, .getfield 25, 3, 0), (54, .iload_n 2, 1, 0), (55, .iaload, 1, 0), (56, .iastore, 1, 0), (57, .iinc 1 1, 3, 0), (60, .iinc 2 1, 3, 0), (63, .goto (-59), 3, 4)]
theorem mk33_2 : (mc33_2).all (m_okI prog_5_method_7_code) = true := by decide +kernel
def mc33_3 : List (Nat × Instr × Nat × Nat) := [(66, .iload_n 1, 1, 0), (67, .ireturn, 1, 0)]
theorem mk33_3 : (mc33_3).all (m_okI prog_5_method_7_code) = true := by decide +kernel
def mc33 : List (Nat × List (Nat × Instr × Nat × Nat)) := [(20, mc33_0), (40, mc33_1), (64, mc33_2), (68, mc33_3)]
theorem mk33 : ∀ c ∈ mc33, c.2.all (m_okI prog_5_method_7_code) = true := by
  simp only [mc33, List.forall_mem_cons, List.not_mem_nil, false_implies, implies_true, and_true]
  exact ⟨mk33_0, mk33_1, mk33_2, mk33_3⟩
/-- EscapeCells$Signposts.isListed(II)Z -/
def mc34_0 : List (Nat × Instr × Nat × Nat) := [(0, .iconst 0, 1, 0), (1, .istore_n 3, 1, 0), (2, .iload_n 3, 1, 0), (3, .iload_n 2, 1, 0), (4, .if_icmp .ge 21, 3, 25), (7, .aload_n 0, 1, 0), (8, .getfield 28, 3, 0), (11, .iload_n 3, 1, 0), (12, .iaload, 1, 0), (13, .iload_n 1, 1, 0), (14, .if_icmp .ne 5, 3, 19), (17, .iconst 1, 1, 0)]
theorem mk34_0 : (mc34_0).all (m_okI prog_5_method_8_code) = true := by decide +kernel
def mc34_1 : List (Nat × Instr × Nat × Nat) := [(18, .ireturn, 1, 0), (19, .iinc 3 1, 3, 0), (22, .goto (-20), 3, 2), (25, .iconst 0, 1, 0), (26, .ireturn, 1, 0)]
theorem mk34_1 : (mc34_1).all (m_okI prog_5_method_8_code) = true := by decide +kernel
def mc34 : List (Nat × List (Nat × Instr × Nat × Nat)) := [(18, mc34_0), (27, mc34_1)]
theorem mk34 : ∀ c ∈ mc34, c.2.all (m_okI prog_5_method_8_code) = true := by
  simp only [mc34, List.forall_mem_cons, List.not_mem_nil, false_implies, implies_true, and_true]
  exact ⟨mk34_0, mk34_1⟩
/-- EscapeCells$Signposts.leastOf(II)I -/
def mc35_0 : List (Nat × Instr × Nat × Nat) := [(0, .iconst 1, 1, 0), (1, .iload_n 1, 1, 0), (2, .ishl, 1, 0), (3, .iconst 1, 1, 0), (4, .isub, 1, 0), (5, .istore_n 3, 1, 0), (6, .aload_n 0, 1, 0), (7, .getfield 31, 3, 0), (10, .bipush 13, 2, 0), (12, .invokestatic 53, 3, 0), (15, .aload_n 0, 1, 0), (16, .getfield 31, 3, 0)]
theorem mk35_0 : (mc35_0).all (m_okI prog_5_method_9_code) = true := by decide +kernel
def mc35_1 : List (Nat × Instr × Nat × Nat) := [(19, .iconst 0, 1, 0), (20, .iconst 0, 1, 0), (21, .iastore, 1, 0), (22, .iconst 0, 1, 0), (23, .istore 4, 2, 0), (25, .iload 4, 2, 0), (27, .iload_n 3, 1, 0), (28, .if_icmp .ge 97, 3, 125), (31, .iload 4, 2, 0), (33, .iconst (-1), 1, 0), (34, .ixor, 1, 0), (35, .iload 4, 2, 0)]
theorem mk35_1 : (mc35_1).all (m_okI prog_5_method_9_code) = true := by decide +kernel
def mc35_2 : List (Nat × Instr × Nat × Nat) := [(37, .iconst 1, 1, 0), (38, .iadd, 1, 0), (39, .iand, 1, 0), (40, .istore 5, 2, 0), (42, .aload_n 0, 1, 0), (43, .getfield 31, 3, 0), (46, .iload 4, 2, 0), (48, .iaload, 1, 0), (49, .iconst 1, 1, 0), (50, .iadd, 1, 0), (51, .istore 6, 2, 0), (53, .iconst 0, 1, 0)]
theorem mk35_2 : (mc35_2).all (m_okI prog_5_method_9_code) = true := by decide +kernel
def mc35_3 : List (Nat × Instr × Nat × Nat) := [(54, .istore 7, 2, 0), (56, .iload 7, 2, 0), (58, .iload_n 2, 1, 0), (59, .if_icmp .ge 60, 3, 119), (62, .iload 6, 2, 0), (64, .bipush 12, 2, 0), (66, .if_icmp .gt 53, 3, 119), (69, .aload_n 0, 1, 0), (70, .getfield 28, 3, 0), (73, .iload 7, 2, 0), (75, .iaload, 1, 0), (76, .iload 5, 2, 0)]
theorem mk35_3 : (mc35_3).all (m_okI prog_5_method_9_code) = true := by decide +kernel
def mc35_4 : List (Nat × Instr × Nat × Nat) := [(78, .iand, 1, 0), (79, .ifCond .eq 34, 3, 113), (82, .iload 4, 2, 0), (84, .aload_n 0, 1, 0), (85, .getfield 28, 3, 0), (88, .iload 7, 2, 0), (90, .iaload, 1, 0), (91, .ior, 1, 0), (92, .istore 8, 2, 0), (94, .aload_n 0, 1, 0), (95, .getfield 31, 3, 0), (98, .iload 8, 2, 0)]
theorem mk35_4 : (mc35_4).all (m_okI prog_5_method_9_code) = true := by decide +kernel
def mc35_5 : List (Nat × Instr × Nat × Nat) := [(100, .aload_n 0, 1, 0), (101, .getfield 31, 3, 0), (104, .iload 8, 2, 0), (106, .iaload, 1, 0), (107, .iload 6, 2, 0), (109, .invokestatic 67, 3, 0), (112, .iastore, 1, 0), (113, .iinc 7 1, 3, 0), (116, .goto (-60), 3, 56), (119, .iinc 4 1, 3, 0), (122, .goto (-97), 3, 25), (125, .aload_n 0, 1, 0)]
theorem mk35_5 : (mc35_5).all (m_okI prog_5_method_9_code) = true := by decide +kernel
def mc35_6 : List (Nat × Instr × Nat × Nat) := [(126, .getfield 31, 3, 0), (129, .iload_n 3, 1, 0), (130, .iaload, 1, 0), (131, .ireturn, 1, 0)]
theorem mk35_6 : (mc35_6).all (m_okI prog_5_method_9_code) = true := by decide +kernel
def mc35 : List (Nat × List (Nat × Instr × Nat × Nat)) := [(17, mc35_0), (36, mc35_1), (54, mc35_2), (77, mc35_3), (99, mc35_4), (126, mc35_5), (132, mc35_6)]
theorem mk35 : ∀ c ∈ mc35, c.2.all (m_okI prog_5_method_9_code) = true := by
  simp only [mc35, List.forall_mem_cons, List.not_mem_nil, false_implies, implies_true, and_true]
  exact ⟨mk35_0, mk35_1, mk35_2, mk35_3, mk35_4, mk35_5, mk35_6⟩
end
section
/-- EscapeCells$Storey.<init>(II)V -/
def mc36_0 : List (Nat × Instr × Nat × Nat) := [(0, .aload_n 0, 1, 0), (1, .invokespecial 3, 3, 0), (4, .aload_n 0, 1, 0), (5, .iload_n 1, 1, 0), (6, .putfield 9, 3, 0), (9, .aload_n 0, 1, 0), (10, .iload_n 2, 1, 0), (11, .putfield 15, 3, 0), (14, .aload_n 0, 1, 0), (15, .iload_n 1, 1, 0), (16, .iload_n 2, 1, 0), (17, .imul, 1, 0)]
theorem mk36_0 : (mc36_0).all (m_okI prog_6_method_1_code) = true := by decide +kernel
def mc36_1 : List (Nat × Instr × Nat × Nat) := [(18, .putfield 18, 3, 0), (21, .aload_n 0, 1, 0), (22, .aload_n 0, 1, 0), (23, .getfield 18, 3, 0), (26, .newarray .int, 2, 0), (28, .putfield 21, 3, 0), (31, .aload_n 0, 1, 0), (32, .aload_n 0, 1, 0), (33, .getfield 18, 3, 0), (36, .newarray .int, 2, 0), (38, .putfield 25, 3, 0), (41, .aload_n 0, 1, 0)]
theorem mk36_1 : (mc36_1).all (m_okI prog_6_method_1_code) = true := by decide +kernel
def mc36_2 : List (Nat × Instr × Nat × Nat) := [(42, .aload_n 0, 1, 0), (43, .getfield 18, 3, 0), (46, .newarray .int, 2, 0), (48, .putfield 28, 3, 0), (51, .aload_n 0, 1, 0), (52, .aload_n 0, 1, 0), (53, .getfield 18, 3, 0), (56, .newarray .int, 2, 0), (58, .putfield 31, 3, 0), (61, .aload_n 0, 1, 0), (62, .bipush 8, 2, 0), (64, .newarray .int, 2, 0)]
theorem mk36_2 : (mc36_2).all (m_okI prog_6_method_1_code) = true := by decide +kernel
def mc36_3 : List (Nat × Instr × Nat × Nat) := [(66, .putfield 34, 3, 0), (69, .aload_n 0, 1, 0), (70, .aload_n 0, 1, 0), (71, .getfield 18, 3, 0), (74, .newarray .int, 2, 0), (76, .putfield 37, 3, 0), (79, .aload_n 0, 1, 0), (80, .aload_n 0, 1, 0), (81, .getfield 18, 3, 0), (84, .newarray .int, 2, 0), (86, .putfield 40, 3, 0), (89, .aload_n 0, 1, 0)]
theorem mk36_3 : (mc36_3).all (m_okI prog_6_method_1_code) = true := by decide +kernel
def mc36_4 : List (Nat × Instr × Nat × Nat) := [(90, .aload_n 0, 1, 0), (91, .getfield 18, 3, 0), (94, .iconst 4, 1, 0), (95, .imul, 1, 0), (96, .newarray .int, 2, 0), (98, .putfield 43, 3, 0), (101, .aload_n 0, 1, 0), (102, .iconst 0, 1, 0), (103, .putfield 46, 3, 0), (106, .aload_n 0, 1, 0), (107, .getfield 28, 3, 0), (110, .iconst (-1), 1, 0)]
theorem mk36_4 : (mc36_4).all (m_okI prog_6_method_1_code) = true := by decide +kernel
def mc36_5 : List (Nat × Instr × Nat × Nat) := [(111, .invokestatic 49, 3, 0), (114, .aload_n 0, 1, 0), (115, .getfield 31, 3, 0), (118, .iconst (-1), 1, 0), (119, .invokestatic 49, 3, 0), (122, .aload_n 0, 1, 0), (123, .getfield 34, 3, 0), (126, .iconst (-1), 1, 0), (127, .invokestatic 49, 3, 0), (130, .iconst 0, 1, 0), (131, .istore_n 3, 1, 0), (132, .iload_n 3, 1, 0)]
theorem mk36_5 : (mc36_5).all (m_okI prog_6_method_1_code) = true := by decide +kernel
def mc36_6 : List (Nat × Instr × Nat × Nat) := [(133, .iload_n 2, 1, 0), (134, .if_icmp .ge 31, 3, 165), (137, .iconst 0, 1, 0), (138, .istore 4, 2, 0), (140, .iload 4, 2, 0), (142, .iload_n 1, 1, 0), (143, .if_icmp .ge 16, 3, 159), (146, .aload_n 0, 1, 0), (147, .iload 4, 2, 0), (149, .iload_n 3, 1, 0), (150, .invokevirtual 55, 3, 0), (153, .iinc 4 1, 3, 0)]
theorem mk36_6 : (mc36_6).all (m_okI prog_6_method_1_code) = true := by decide +kernel
def mc36_7 : List (Nat × Instr × Nat × Nat) := [(156, .goto (-16), 3, 140), (159, .iinc 3 1, 3, 0), (162, .goto (-30), 3, 132), (165, .return_, 1, 0)]
theorem mk36_7 : (mc36_7).all (m_okI prog_6_method_1_code) = true := by decide +kernel
def mc36 : List (Nat × List (Nat × Instr × Nat × Nat)) := [(18, mc36_0), (42, mc36_1), (65, mc36_2), (90, mc36_3), (111, mc36_4), (133, mc36_5), (154, mc36_6), (166, mc36_7)]
theorem mk36 : ∀ c ∈ mc36, c.2.all (m_okI prog_6_method_1_code) = true := by
  simp only [mc36, List.forall_mem_cons, List.not_mem_nil, false_implies, implies_true, and_true]
  exact ⟨mk36_0, mk36_1, mk36_2, mk36_3, mk36_4, mk36_5, mk36_6, mk36_7⟩
/-- EscapeCells$Storey.layCell(II)V -/
def mc37_0 : List (Nat × Instr × Nat × Nat) := [(0, .iload_n 2, 1, 0), (1, .aload_n 0, 1, 0), (2, .getfield 9, 3, 0), (5, .imul, 1, 0), (6, .iload_n 1, 1, 0), (7, .iadd, 1, 0), (8, .istore_n 3, 1, 0), (9, .aload_n 0, 1, 0), (10, .getfield 37, 3, 0), (13, .iload_n 3, 1, 0), (14, .iload_n 1, 1, 0), (15, .iastore, 1, 0)]
theorem mk37_0 : (mc37_0).all (m_okI prog_6_method_2_code) = true := by decide +kernel
def mc37_1 : List (Nat × Instr × Nat × Nat) := [(16, .aload_n 0, 1, 0), (17, .getfield 40, 3, 0), (20, .iload_n 3, 1, 0), (21, .iload_n 2, 1, 0), (22, .iastore, 1, 0), (23, .iconst 0, 1, 0), (24, .istore 4, 2, 0), (26, .iload 4, 2, 0), (28, .iconst 4, 1, 0), (29, .if_icmp .ge 40, 3, 69), (32, .aload_n 0, 1, 0), (33, .getfield 43, 3, 0)]
theorem mk37_1 : (mc37_1).all (m_okI prog_6_method_2_code) = true := by decide +kernel
def mc37_2 : List (Nat × Instr × Nat × Nat) := [(36, .iload_n 3, 1, 0), (37, .iconst 4, 1, 0), (38, .imul, 1, 0), (39, .iload 4, 2, 0), (41, .iadd, 1, 0), (42, .aload_n 0, 1, 0), (43, .iload_n 1, 1, 0), (44, .getstatic 59, 3, 0), (47, .iload 4, 2, 0), (49, .iaload, 1, 0), (50, .iadd, 1, 0), (51, .iload_n 2, 1, 0)]
theorem mk37_2 : (mc37_2).all (m_okI prog_6_method_2_code) = true := by decide +kernel
def mc37_3 : List (Nat × Instr × Nat × Nat) := [(52, .getstatic 62, 3, 0), (55, .iload 4, 2, 0), (57, .iaload, 1, 0), (58, .iadd, 1, 0), (59, .invokevirtual 65, 3, 0), (62, .iastore, 1, 0), (63, .iinc 4 1, 3, 0), (66, .goto (-40), 3, 26), (69, .return_, 1, 0)]
theorem mk37_3 : (mc37_3).all (m_okI prog_6_method_2_code) = true := by decide +kernel
def mc37 : List (Nat × List (Nat × Instr × Nat × Nat)) := [(16, mc37_0), (34, mc37_1), (52, mc37_2), (70, mc37_3)]
theorem mk37 : ∀ c ∈ mc37, c.2.all (m_okI prog_6_method_2_code) = true := by
  simp only [mc37, List.forall_mem_cons, List.not_mem_nil, false_implies, implies_true, and_true]
  exact ⟨mk37_0, mk37_1, mk37_2, mk37_3⟩
/-- EscapeCells$Storey.cellOf(II)I -/
def mc38_0 : List (Nat × Instr × Nat × Nat) := [(0, .iload_n 1, 1, 0), (1, .ifCond .lt 23, 3, 24), (4, .iload_n 1, 1, 0), (5, .aload_n 0, 1, 0), (6, .getfield 9, 3, 0), (9, .if_icmp .ge 15, 3, 24), (12, .iload_n 2, 1, 0), (13, .ifCond .lt 11, 3, 24), (16, .iload_n 2, 1, 0), (17, .aload_n 0, 1, 0), (18, .getfield 15, 3, 0), (21, .if_icmp .lt 7, 3, 28)]
theorem mk38_0 : (mc38_0).all (m_okI prog_6_method_3_code) = true := by decide +kernel
def mc38_1 : List (Nat × Instr × Nat × Nat) := [(24, .iconst (-1), 1, 0), (25, .goto 11, 3, 36), (28, .iload_n 2, 1, 0), (29, .aload_n 0, 1, 0), (30, .getfield 9, 3, 0), (33, .imul, 1, 0), (34, .iload_n 1, 1, 0), (35, .iadd, 1, 0), (36, .ireturn, 1, 0)]
theorem mk38_1 : (mc38_1).all (m_okI prog_6_method_3_code) = true := by decide +kernel
def mc38 : List (Nat × List (Nat × Instr × Nat × Nat)) := [(22, mc38_0), (37, mc38_1)]
theorem mk38 : ∀ c ∈ mc38, c.2.all (m_okI prog_6_method_3_code) = true := by
  simp only [mc38, List.forall_mem_cons, List.not_mem_nil, false_implies, implies_true, and_true]
  exact ⟨mk38_0, mk38_1⟩
/-- EscapeCells$Storey.openBeside(II)I -/
def mc39_0 : List (Nat × Instr × Nat × Nat) := [(0, .aload_n 0, 1, 0), (1, .getfield 43, 3, 0), (4, .iload_n 1, 1, 0), (5, .iconst 4, 1, 0), (6, .imul, 1, 0), (7, .iload_n 2, 1, 0), (8, .iadd, 1, 0), (9, .iaload, 1, 0), (10, .istore_n 3, 1, 0), (11, .iload_n 3, 1, 0), (12, .iconst (-1), 1, 0), (13, .if_icmp .eq 11, 3, 24)]
theorem mk39_0 : (mc39_0).all (m_okI prog_6_method_4_code) = true := by decide +kernel
def mc39_1 : List (Nat × Instr × Nat × Nat) := [(16, .aload_n 0, 1, 0), (17, .iload_n 3, 1, 0), (18, .invokevirtual 69, 3, 0), (21, .ifCond .eq 7, 3, 28), (24, .iconst (-1), 1, 0), (25, .goto 4, 3, 29), (28, .iload_n 3, 1, 0), (29, .ireturn, 1, 0)]
theorem mk39_1 : (mc39_1).all (m_okI prog_6_method_4_code) = true := by decide +kernel
def mc39 : List (Nat × List (Nat × Instr × Nat × Nat)) := [(14, mc39_0), (30, mc39_1)]
theorem mk39 : ∀ c ∈ mc39, c.2.all (m_okI prog_6_method_4_code) = true := by
  simp only [mc39, List.forall_mem_cons, List.not_mem_nil, false_implies, implies_true, and_true]
  exact ⟨mk39_0, mk39_1⟩
/-- EscapeCells$Storey.isWall(I)Z -/
def mc40_0 : List (Nat × Instr × Nat × Nat) := [(0, .aload_n 0, 1, 0), (1, .getfield 21, 3, 0), (4, .iload_n 1, 1, 0), (5, .iaload, 1, 0), (6, .iconst 1, 1, 0), (7, .if_icmp .ne 7, 3, 14), (10, .iconst 1, 1, 0), (11, .goto 4, 3, 15), (14, .iconst 0, 1, 0), (15, .ireturn, 1, 0)]
theorem mk40_0 : (mc40_0).all (m_okI prog_6_method_5_code) = true := by decide +kernel
def mc40 : List (Nat × List (Nat × Instr × Nat × Nat)) := [(16, mc40_0)]
theorem mk40 : ∀ c ∈ mc40, c.2.all (m_okI prog_6_method_5_code) = true := by
  simp only [mc40, List.forall_mem_cons, List.not_mem_nil, false_implies, implies_true, and_true]
  exact mk40_0
/-- EscapeCells$Storey.isExit(I)Z -/
def mc41_0 : List (Nat × Instr × Nat × Nat) := [(0, .aload_n 0, 1, 0), (1, .getfield 21, 3, 0), (4, .iload_n 1, 1, 0), (5, .iaload, 1, 0), (6, .iconst 2, 1, 0), (7, .if_icmp .ne 7, 3, 14), (10, .iconst 1, 1, 0), (11, .goto 4, 3, 15), (14, .iconst 0, 1, 0), (15, .ireturn, 1, 0)]
theorem mk41_0 : (mc41_0).all (m_okI prog_6_method_6_code) = true := by decide +kernel
def mc41 : List (Nat × List (Nat × Instr × Nat × Nat)) := [(16, mc41_0)]
theorem mk41 : ∀ c ∈ mc41, c.2.all (m_okI prog_6_method_6_code) = true := by
  simp only [mc41, List.forall_mem_cons, List.not_mem_nil, false_implies, implies_true, and_true]
  exact mk41_0
/-- EscapeCells$Storey.hasRate(I)Z -/
def mc42_0 : List (Nat × Instr × Nat × Nat) := [(0, .aload_n 0, 1, 0), (1, .getfield 21, 3, 0), (4, .iload_n 1, 1, 0), (5, .iaload, 1, 0), (6, .iconst 2, 1, 0), (7, .if_icmp .eq 13, 3, 20), (10, .aload_n 0, 1, 0), (11, .getfield 21, 3, 0), (14, .iload_n 1, 1, 0), (15, .iaload, 1, 0), (16, .iconst 3, 1, 0), (17, .if_icmp .ne 7, 3, 24)]
theorem mk42_0 : (mc42_0).all (m_okI prog_6_method_7_code) = true := by decide +kernel
def mc42_1 : List (Nat × Instr × Nat × Nat) := [(20, .iconst 1, 1, 0), (21, .goto 4, 3, 25), (24, .iconst 0, 1, 0), (25, .ireturn, 1, 0)]
theorem mk42_1 : (mc42_1).all (m_okI prog_6_method_7_code) = true := by decide +kernel
def mc42 : List (Nat × List (Nat × Instr × Nat × Nat)) := [(18, mc42_0), (26, mc42_1)]
theorem mk42 : ∀ c ∈ mc42, c.2.all (m_okI prog_6_method_7_code) = true := by
  simp only [mc42, List.forall_mem_cons, List.not_mem_nil, false_implies, implies_true, and_true]
  exact ⟨mk42_0, mk42_1⟩
/-- EscapeCells$Storey.isBarred(II)Z -/
def mc43_0 : List (Nat × Instr × Nat × Nat) := [(0, .aload_n 0, 1, 0), (1, .getfield 28, 3, 0), (4, .iload_n 1, 1, 0), (5, .iaload, 1, 0), (6, .iconst (-1), 1, 0), (7, .if_icmp .eq 17, 3, 24), (10, .aload_n 0, 1, 0), (11, .getfield 28, 3, 0), (14, .iload_n 1, 1, 0), (15, .iaload, 1, 0), (16, .iload_n 2, 1, 0), (17, .if_icmp .gt 7, 3, 24)]
theorem mk43_0 : (mc43_0).all (m_okI prog_6_method_8_code) = true := by decide +kernel
def mc43_1 : List (Nat × Instr × Nat × Nat) := [(20, .iconst 1, 1, 0), (21, .goto 4, 3, 25), (24, .iconst 0, 1, 0), (25, .ireturn, 1, 0)]
theorem mk43_1 : (mc43_1).all (m_okI prog_6_method_8_code) = true := by decide +kernel
def mc43 : List (Nat × List (Nat × Instr × Nat × Nat)) := [(18, mc43_0), (26, mc43_1)]
theorem mk43 : ∀ c ∈ mc43, c.2.all (m_okI prog_6_method_8_code) = true := by
  simp only [mc43, List.forall_mem_cons, List.not_mem_nil, false_implies, implies_true, and_true]
  exact ⟨mk43_0, mk43_1⟩
/-- EscapeCells$Storey.isExitNumberOrNone(I)Z -/
def mc44_0 : List (Nat × Instr × Nat × Nat) := [(0, .iload_n 1, 1, 0), (1, .iconst (-1), 1, 0), (2, .if_icmp .lt 15, 3, 17), (5, .iload_n 1, 1, 0), (6, .aload_n 0, 1, 0), (7, .getfield 46, 3, 0), (10, .if_icmp .ge 7, 3, 17), (13, .iconst 1, 1, 0), (14, .goto 4, 3, 18), (17, .iconst 0, 1, 0), (18, .ireturn, 1, 0)]
theorem mk44_0 : (mc44_0).all (m_okI prog_6_method_9_code) = true := by decide +kernel
def mc44 : List (Nat × List (Nat × Instr × Nat × Nat)) := [(19, mc44_0)]
theorem mk44 : ∀ c ∈ mc44, c.2.all (m_okI prog_6_method_9_code) = true := by
  simp only [mc44, List.forall_mem_cons, List.not_mem_nil, false_implies, implies_true, and_true]
  exact mk44_0
/-- EscapeCells$Storey.makeWall(I)V -/
def mc45_0 : List (Nat × Instr × Nat × Nat) := [(0, .aload_n 0, 1, 0), (1, .getfield 31, 3, 0), (4, .iload_n 1, 1, 0), (5, .iaload, 1, 0), (6, .istore_n 2, 1, 0), (7, .iload_n 2, 1, 0), (8, .iconst (-1), 1, 0), (9, .if_icmp .eq 17, 3, 26), (12, .aload_n 0, 1, 0), (13, .getfield 34, 3, 0), (16, .iload_n 2, 1, 0), (17, .iconst (-1), 1, 0)]
theorem mk45_0 : (mc45_0).all (m_okI prog_6_method_10_code) = true := by decide +kernel
def mc45_1 : List (Nat × Instr × Nat × Nat) := [(18, .iastore, 1, 0), (19, .aload_n 0, 1, 0), (20, .getfield 31, 3, 0), (23, .iload_n 1, 1, 0), (24, .iconst (-1), 1, 0), (25, .iastore, 1, 0), (26, .aload_n 0, 1, 0), (27, .getfield 21, 3, 0), (30, .iload_n 1, 1, 0), (31, .iconst 1, 1, 0), (32, .iastore, 1, 0), (33, .return_, 1, 0)]
theorem mk45_1 : (mc45_1).all (m_okI prog_6_method_10_code) = true := by decide +kernel
def mc45 : List (Nat × List (Nat × Instr × Nat × Nat)) := [(18, mc45_0), (34, mc45_1)]
theorem mk45 : ∀ c ∈ mc45, c.2.all (m_okI prog_6_method_10_code) = true := by
  simp only [mc45, List.forall_mem_cons, List.not_mem_nil, false_implies, implies_true, and_true]
  exact ⟨mk45_0, mk45_1⟩
/-- EscapeCells$Storey.makeFree(I)V -/
def mc46_0 : List (Nat × Instr × Nat × Nat) := [(0, .aload_n 0, 1, 0), (1, .getfield 21, 3, 0), (4, .iload_n 1, 1, 0), (5, .iconst 0, 1, 0), (6, .iastore, 1, 0), (7, .return_, 1, 0)]
theorem mk46_0 : (mc46_0).all (m_okI prog_6_method_11_code) = true := by decide +kernel
def mc46 : List (Nat × List (Nat × Instr × Nat × Nat)) := [(8, mc46_0)]
theorem mk46 : ∀ c ∈ mc46, c.2.all (m_okI prog_6_method_11_code) = true := by
  simp only [mc46, List.forall_mem_cons, List.not_mem_nil, false_implies, implies_true, and_true]
  exact mk46_0
/-- EscapeCells$Storey.makeExit(I)V -/
def mc47_0 : List (Nat × Instr × Nat × Nat) := [(0, .aload_n 0, 1, 0), (1, .getfield 46, 3, 0), (4, .bipush 8, 2, 0), (6, .if_icmp .ge 40, 3, 46), (9, .aload_n 0, 1, 0), (10, .getfield 21, 3, 0), (13, .iload_n 1, 1, 0), (14, .iconst 2, 1, 0), (15, .iastore, 1, 0), (16, .aload_n 0, 1, 0), (17, .getfield 31, 3, 0), (20, .iload_n 1, 1, 0)]
theorem mk47_0 : (mc47_0).all (m_okI prog_6_method_12_code) = true := by decide +kernel
def mc47_1 : List (Nat × Instr × Nat × Nat) := [(21, .aload_n 0, 1, 0), (22, .getfield 46, 3, 0), (25, .iastore, 1, 0), (26, .aload_n 0, 1, 0), (27, .getfield 34, 3, 0), (30, .aload_n 0, 1, 0), (31, .getfield 46, 3, 0), (34, .iload_n 1, 1, 0), (35, .iastore, 1, 0), (36, .aload_n 0, 1, 0), (37, .dup, 1, 0), (38, .getfield 46, 3, 0)]
theorem mk47_1 : (mc47_1).all (m_okI prog_6_method_12_code) = true := by decide +kernel
def mc47_2 : List (Nat × Instr × Nat × Nat) := [(41, .iconst 1, 1, 0), (42, .iadd, 1, 0), (43, .putfield 46, 3, 0), (46, .return_, 1, 0)]
theorem mk47_2 : (mc47_2).all (m_okI prog_6_method_12_code) = true := by decide +kernel
def mc47 : List (Nat × List (Nat × Instr × Nat × Nat)) := [(21, mc47_0), (39, mc47_1), (47, mc47_2)]
theorem mk47 : ∀ c ∈ mc47, c.2.all (m_okI prog_6_method_12_code) = true := by
  simp only [mc47, List.forall_mem_cons, List.not_mem_nil, false_implies, implies_true, and_true]
  exact ⟨mk47_0, mk47_1, mk47_2⟩
/-- EscapeCells.<init>(II)V -/
def mc48_0 : List (Nat × Instr × Nat × Nat) := [(0, .aload_n 0, 1, 0), (1, .invokespecial 3, 3, 0), (4, .aload_n 0, 1, 0), (5, .new 9, 3, 0), (8, .dup, 1, 0), (9, .iload_n 1, 1, 0), (10, .invokestatic 11, 3, 0), (13, .iload_n 2, 1, 0), (14, .invokestatic 11, 3, 0), (17, .invokespecial 15, 3, 0), (20, .putfield 18, 3, 0), (23, .aload_n 0, 1, 0)]
theorem mk48_0 : (mc48_0).all (m_okI prog_1_method_1_code) = true := by decide +kernel
def mc48_1 : List (Nat × Instr × Nat × Nat) := [(24, .new 22, 3, 0), (27, .dup, 1, 0), (28, .aload_n 0, 1, 0), (29, .getfield 18, 3, 0), (32, .invokespecial 24, 3, 0), (35, .putfield 27, 3, 0), (38, .aload_n 0, 1, 0), (39, .new 31, 3, 0), (42, .dup, 1, 0), (43, .aload_n 0, 1, 0), (44, .getfield 18, 3, 0), (47, .getfield 33, 3, 0)]
theorem mk48_1 : (mc48_1).all (m_okI prog_1_method_1_code) = true := by decide +kernel
def mc48_2 : List (Nat × Instr × Nat × Nat) := [(50, .invokespecial 37, 3, 0), (53, .putfield 40, 3, 0), (56, .aload_n 0, 1, 0), (57, .new 44, 3, 0), (60, .dup, 1, 0), (61, .aload_n 0, 1, 0), (62, .getfield 18, 3, 0), (65, .aload_n 0, 1, 0), (66, .getfield 27, 3, 0), (69, .aload_n 0, 1, 0), (70, .getfield 40, 3, 0), (73, .invokespecial 46, 3, 0)]
theorem mk48_2 : (mc48_2).all (m_okI prog_1_method_1_code) = true := by decide +kernel
def mc48_3 : List (Nat × Instr × Nat × Nat) := [(76, .putfield 49, 3, 0), (79, .aload_n 0, 1, 0), (80, .new 53, 3, 0), (83, .dup, 1, 0), (84, .aload_n 0, 1, 0), (85, .getfield 18, 3, 0), (88, .invokespecial 55, 3, 0), (91, .putfield 56, 3, 0), (94, .aload_n 0, 1, 0), (95, .iconst 0, 1, 0), (96, .putfield 60, 3, 0), (99, .return_, 1, 0)]
theorem mk48_3 : (mc48_3).all (m_okI prog_1_method_1_code) = true := by decide +kernel
def mc48 : List (Nat × List (Nat × Instr × Nat × Nat)) := [(24, mc48_0), (48, mc48_1), (74, mc48_2), (100, mc48_3)]
theorem mk48 : ∀ c ∈ mc48, c.2.all (m_okI prog_1_method_1_code) = true := by
  simp only [mc48, List.forall_mem_cons, List.not_mem_nil, false_implies, implies_true, and_true]
  exact ⟨mk48_0, mk48_1, mk48_2, mk48_3⟩
/-- EscapeCells.wall(IIZ)Z -/
def mc49_0 : List (Nat × Instr × Nat × Nat) := [(0, .aload_n 0, 1, 0), (1, .getfield 18, 3, 0), (4, .iload_n 1, 1, 0), (5, .iload_n 2, 1, 0), (6, .invokevirtual 64, 3, 0), (9, .istore 4, 2, 0), (11, .iload 4, 2, 0), (13, .iconst (-1), 1, 0), (14, .if_icmp .ne 13, 3, 27), (17, .new 68, 3, 0), (20, .dup, 1, 0), (21, .ldc 70, 2, 0)]
theorem mk49_0 : (mc49_0).all (m_okI prog_1_method_2_code) = true := by decide +kernel
def mc49_1 : List (Nat × Instr × Nat × Nat) := [(23, .invokespecial 72, 3, 0), (26, .athrow, 1, 0), (27, .aload_n 0, 1, 0), (28, .getfield 40, 3, 0), (31, .getfield 75, 3, 0), (34, .iload 4, 2, 0), (36, .iaload, 1, 0), (37, .iconst (-1), 1, 0), (38, .if_icmp .eq 13, 3, 51), (41, .new 79, 3, 0), (44, .dup, 1, 0), (45, .ldc 81, 2, 0)]
theorem mk49_1 : (mc49_1).all (m_okI prog_1_method_2_code) = true := by decide +kernel
def mc49_2 : List (Nat × Instr × Nat × Nat) := [(47, .invokespecial 83, 3, 0), (50, .athrow, 1, 0), (51, .aload_n 0, 1, 0), (52, .getfield 18, 3, 0), (55, .iload 4, 2, 0), (57, .invokevirtual 84, 3, 0), (60, .istore 5, 2, 0), (62, .iload_n 3, 1, 0), (63, .ifCond .eq 15, 3, 78), (66, .aload_n 0, 1, 0), (67, .getfield 18, 3, 0), (70, .iload 4, 2, 0)]
theorem mk49_2 : (mc49_2).all (m_okI prog_1_method_2_code) = true := by decide +kernel
def mc49_3 : List (Nat × Instr × Nat × Nat) := [(72, .invokevirtual 88, 3, 0), (75, .goto 17, 3, 92), (78, .iload 5, 2, 0), (80, .ifCond .eq 12, 3, 92), (83, .aload_n 0, 1, 0), (84, .getfield 18, 3, 0), (87, .iload 4, 2, 0), (89, .invokevirtual 91, 3, 0), (92, .iload 5, 2, 0), (94, .iload_n 3, 1, 0), (95, .if_icmp .eq 10, 3, 105), (98, .aload_n 0, 1, 0)]
theorem mk49_3 : (mc49_3).all (m_okI prog_1_method_2_code) = true := by decide +kernel
def mc49_4 : List (Nat × Instr × Nat × Nat) := [(99, .getfield 27, 3, 0), (102, .invokevirtual 94, 3, 0), (105, .aload_n 0, 1, 0), (106, .iconst 0, 1, 0), (107, .putfield 60, 3, 0), (110, .iload 5, 2, 0), (112, .ireturn, 1, 0)]
theorem mk49_4 : (mc49_4).all (m_okI prog_1_method_2_code) = true := by decide +kernel
def mc49 : List (Nat × List (Nat × Instr × Nat × Nat)) := [(22, mc49_0), (46, mc49_1), (71, mc49_2), (99, mc49_3), (113, mc49_4)]
theorem mk49 : ∀ c ∈ mc49, c.2.all (m_okI prog_1_method_2_code) = true := by
  simp only [mc49, List.forall_mem_cons, List.not_mem_nil, false_implies, implies_true, and_true]
  exact ⟨mk49_0, mk49_1, mk49_2, mk49_3, mk49_4⟩
/-- EscapeCells.exit(III)I -/
def mc50_0 : List (Nat × Instr × Nat × Nat) := [(0, .aload_n 0, 1, 0), (1, .getfield 18, 3, 0), (4, .iload_n 1, 1, 0), (5, .iload_n 2, 1, 0), (6, .invokevirtual 64, 3, 0), (9, .istore 4, 2, 0), (11, .iload 4, 2, 0), (13, .iconst (-1), 1, 0), (14, .if_icmp .eq 12, 3, 26), (17, .iload_n 3, 1, 0), (18, .iconst 1, 1, 0), (19, .iconst 5, 1, 0)]
theorem mk50_0 : (mc50_0).all (m_okI prog_1_method_3_code) = true := by decide +kernel
def mc50_1 : List (Nat × Instr × Nat × Nat) := [(20, .invokestatic 97, 3, 0), (23, .ifCond .ne 13, 3, 36), (26, .new 68, 3, 0), (29, .dup, 1, 0), (30, .ldc 101, 2, 0), (32, .invokespecial 72, 3, 0), (35, .athrow, 1, 0), (36, .aload_n 0, 1, 0), (37, .getfield 18, 3, 0), (40, .iload 4, 2, 0), (42, .invokevirtual 84, 3, 0), (45, .ifCond .ne 17, 3, 62)]
theorem mk50_1 : (mc50_1).all (m_okI prog_1_method_3_code) = true := by decide +kernel
def mc50_2 : List (Nat × Instr × Nat × Nat) := [(48, .aload_n 0, 1, 0), (49, .getfield 40, 3, 0), (52, .getfield 75, 3, 0), (55, .iload 4, 2, 0), (57, .iaload, 1, 0), (58, .iconst (-1), 1, 0), (59, .if_icmp .eq 13, 3, 72), (62, .new 79, 3, 0), (65, .dup, 1, 0), (66, .ldc 103, 2, 0), (68, .invokespecial 83, 3, 0), (71, .athrow, 1, 0)]
theorem mk50_2 : (mc50_2).all (m_okI prog_1_method_3_code) = true := by decide +kernel
def mc50_3 : List (Nat × Instr × Nat × Nat) := [(72, .aload_n 0, 1, 0), (73, .getfield 18, 3, 0), (76, .iload 4, 2, 0), (78, .invokevirtual 105, 3, 0), (81, .ifCond .ne 41, 3, 122), (84, .aload_n 0, 1, 0), (85, .getfield 18, 3, 0), (88, .getfield 108, 3, 0), (91, .bipush 8, 2, 0), (93, .if_icmp .lt 13, 3, 106), (96, .new 79, 3, 0), (99, .dup, 1, 0)]
theorem mk50_3 : (mc50_3).all (m_okI prog_1_method_3_code) = true := by decide +kernel
def mc50_4 : List (Nat × Instr × Nat × Nat) := [(100, .ldc 111, 2, 0), (102, .invokespecial 83, 3, 0), (105, .athrow, 1, 0), (106, .aload_n 0, 1, 0), (107, .getfield 18, 3, 0), (110, .iload 4, 2, 0), (112, .invokevirtual 113, 3, 0), (115, .aload_n 0, 1, 0), (116, .getfield 27, 3, 0), (119, .invokevirtual 94, 3, 0), (122, .aload_n 0, 1, 0), (123, .getfield 18, 3, 0)]
theorem mk50_4 : (mc50_4).all (m_okI prog_1_method_3_code) = true := by decide +kernel
def mc50_5 : List (Nat × Instr × Nat × Nat) := [(126, .getfield 116, 3, 0), (129, .iload 4, 2, 0), (131, .iload_n 3, 1, 0), (132, .iastore, 1, 0), (133, .aload_n 0, 1, 0), (134, .iconst 0, 1, 0), (135, .putfield 60, 3, 0), (138, .aload_n 0, 1, 0), (139, .getfield 18, 3, 0), (142, .getfield 119, 3, 0), (145, .iload 4, 2, 0), (147, .iaload, 1, 0)]
theorem mk50_5 : (mc50_5).all (m_okI prog_1_method_3_code) = true := by decide +kernel
def mc50_6 : List (Nat × Instr × Nat × Nat) := [(148, .ireturn, 1, 0)]
theorem mk50_6 : (mc50_6).all (m_okI prog_1_method_3_code) = true := by decide +kernel
def mc50 : List (Nat × List (Nat × Instr × Nat × Nat)) := [(20, mc50_0), (46, mc50_1), (72, mc50_2), (100, mc50_3), (124, mc50_4), (148, mc50_5), (149, mc50_6)]
theorem mk50 : ∀ c ∈ mc50, c.2.all (m_okI prog_1_method_3_code) = true := by
  simp only [mc50, List.forall_mem_cons, List.not_mem_nil, false_implies, implies_true, and_true]
  exact ⟨mk50_0, mk50_1, mk50_2, mk50_3, mk50_4, mk50_5, mk50_6⟩
/-- EscapeCells.door(III)V -/
def mc51_0 : List (Nat × Instr × Nat × Nat) := [(0, .aload_n 0, 1, 0), (1, .getfield 18, 3, 0), (4, .iload_n 1, 1, 0), (5, .iload_n 2, 1, 0), (6, .invokevirtual 64, 3, 0), (9, .istore 4, 2, 0), (11, .iload 4, 2, 0), (13, .iconst (-1), 1, 0), (14, .if_icmp .eq 12, 3, 26), (17, .iload_n 3, 1, 0), (18, .iconst 1, 1, 0), (19, .iconst 5, 1, 0)]
theorem mk51_0 : (mc51_0).all (m_okI prog_1_method_4_code) = true := by decide +kernel
def mc51_1 : List (Nat × Instr × Nat × Nat) := [(20, .invokestatic 97, 3, 0), (23, .ifCond .ne 13, 3, 36), (26, .new 68, 3, 0), (29, .dup, 1, 0), (30, .ldc 101, 2, 0), (32, .invokespecial 72, 3, 0), (35, .athrow, 1, 0), (36, .aload_n 0, 1, 0), (37, .getfield 18, 3, 0), (40, .iload 4, 2, 0), (42, .invokevirtual 84, 3, 0), (45, .ifCond .ne 15, 3, 60)]
theorem mk51_1 : (mc51_1).all (m_okI prog_1_method_4_code) = true := by decide +kernel
def mc51_2 : List (Nat × Instr × Nat × Nat) := [(48, .aload_n 0, 1, 0), (49, .getfield 18, 3, 0), (52, .iload 4, 2, 0), (54, .invokevirtual 105, 3, 0), (57, .ifCond .eq 13, 3, 70), (60, .new 79, 3, 0), (63, .dup, 1, 0), (64, .ldc 122, 2, 0), (66, .invokespecial 83, 3, 0), (69, .athrow, 1, 0), (70, .aload_n 0, 1, 0), (71, .getfield 18, 3, 0)]
theorem mk51_2 : (mc51_2).all (m_okI prog_1_method_4_code) = true := by decide +kernel
def mc51_3 : List (Nat × Instr × Nat × Nat) := [(74, .getfield 124, 3, 0), (77, .iload 4, 2, 0), (79, .iconst 3, 1, 0), (80, .iastore, 1, 0), (81, .aload_n 0, 1, 0), (82, .getfield 18, 3, 0), (85, .getfield 116, 3, 0), (88, .iload 4, 2, 0), (90, .iload_n 3, 1, 0), (91, .iastore, 1, 0), (92, .aload_n 0, 1, 0), (93, .iconst 0, 1, 0)]
theorem mk51_3 : (mc51_3).all (m_okI prog_1_method_4_code) = true := by decide +kernel
def mc51_4 : List (Nat × Instr × Nat × Nat) := [(94, .putfield 60, 3, 0), (97, .return_, 1, 0)]
theorem mk51_4 : (mc51_4).all (m_okI prog_1_method_4_code) = true := by decide +kernel
def mc51 : List (Nat × List (Nat × Instr × Nat × Nat)) := [(20, mc51_0), (46, mc51_1), (72, mc51_2), (94, mc51_3), (98, mc51_4)]
theorem mk51 : ∀ c ∈ mc51, c.2.all (m_okI prog_1_method_4_code) = true := by
  simp only [mc51, List.forall_mem_cons, List.not_mem_nil, false_implies, implies_true, and_true]
  exact ⟨mk51_0, mk51_1, mk51_2, mk51_3, mk51_4⟩
/-- EscapeCells.smoke(III)I -/
def mc52_0 : List (Nat × Instr × Nat × Nat) := [(0, .aload_n 0, 1, 0), (1, .getfield 18, 3, 0), (4, .iload_n 1, 1, 0), (5, .iload_n 2, 1, 0), (6, .invokevirtual 64, 3, 0), (9, .istore 4, 2, 0), (11, .iload 4, 2, 0), (13, .iconst (-1), 1, 0), (14, .if_icmp .eq 14, 3, 28), (17, .iload_n 3, 1, 0), (18, .iconst (-1), 1, 0), (19, .sipush 3600, 3, 0)]
theorem mk52_0 : (mc52_0).all (m_okI prog_1_method_5_code) = true := by decide +kernel
def mc52_1 : List (Nat × Instr × Nat × Nat) := [(22, .invokestatic 97, 3, 0), (25, .ifCond .ne 13, 3, 38), (28, .new 68, 3, 0), (31, .dup, 1, 0), (32, .ldc 127, 2, 0), (34, .invokespecial 72, 3, 0), (37, .athrow, 1, 0), (38, .aload_n 0, 1, 0), (39, .getfield 18, 3, 0), (42, .getfield 129, 3, 0), (45, .iload 4, 2, 0), (47, .iaload, 1, 0)]
theorem mk52_1 : (mc52_1).all (m_okI prog_1_method_5_code) = true := by decide +kernel
def mc52_2 : List (Nat × Instr × Nat × Nat) := [(48, .istore 5, 2, 0), (50, .aload_n 0, 1, 0), (51, .getfield 18, 3, 0), (54, .getfield 129, 3, 0), (57, .iload 4, 2, 0), (59, .iload_n 3, 1, 0), (60, .iastore, 1, 0), (61, .aload_n 0, 1, 0), (62, .iconst 0, 1, 0), (63, .putfield 60, 3, 0), (66, .iload 5, 2, 0), (68, .ireturn, 1, 0)]
theorem mk52_2 : (mc52_2).all (m_okI prog_1_method_5_code) = true := by decide +kernel
def mc52 : List (Nat × List (Nat × Instr × Nat × Nat)) := [(20, mc52_0), (48, mc52_1), (69, mc52_2)]
theorem mk52 : ∀ c ∈ mc52, c.2.all (m_okI prog_1_method_5_code) = true := by
  simp only [mc52, List.forall_mem_cons, List.not_mem_nil, false_implies, implies_true, and_true]
  exact ⟨mk52_0, mk52_1, mk52_2⟩
/-- EscapeCells.person(IIII)I -/
def mc53_0 : List (Nat × Instr × Nat × Nat) := [(0, .aload_n 0, 1, 0), (1, .getfield 18, 3, 0), (4, .iload_n 1, 1, 0), (5, .iload_n 2, 1, 0), (6, .invokevirtual 64, 3, 0), (9, .istore 5, 2, 0), (11, .iload 5, 2, 0), (13, .iconst (-1), 1, 0), (14, .if_icmp .eq 24, 3, 38), (17, .iload_n 3, 1, 0), (18, .iconst 1, 1, 0), (19, .iconst 5, 1, 0)]
theorem mk53_0 : (mc53_0).all (m_okI prog_1_method_6_code) = true := by decide +kernel
def mc53_1 : List (Nat × Instr × Nat × Nat) := [(20, .invokestatic 97, 3, 0), (23, .ifCond .eq 15, 3, 38), (26, .iload 4, 2, 0), (28, .iconst 0, 1, 0), (29, .sipush 600, 3, 0), (32, .invokestatic 97, 3, 0), (35, .ifCond .ne 13, 3, 48), (38, .new 68, 3, 0), (41, .dup, 1, 0), (42, .ldc 132, 2, 0), (44, .invokespecial 72, 3, 0), (47, .athrow, 1, 0)]
theorem mk53_1 : (mc53_1).all (m_okI prog_1_method_6_code) = true := by decide +kernel
def mc53_2 : List (Nat × Instr × Nat × Nat) := [(48, .aload_n 0, 1, 0), (49, .getfield 18, 3, 0), (52, .iload 5, 2, 0), (54, .invokevirtual 84, 3, 0), (57, .ifCond .ne 15, 3, 72), (60, .aload_n 0, 1, 0), (61, .getfield 18, 3, 0), (64, .iload 5, 2, 0), (66, .invokevirtual 105, 3, 0), (69, .ifCond .eq 13, 3, 82), (72, .new 79, 3, 0), (75, .dup, 1, 0)]
theorem mk53_2 : (mc53_2).all (m_okI prog_1_method_6_code) = true := by decide +kernel
def mc53_3 : List (Nat × Instr × Nat × Nat) := [(76, .ldc 122, 2, 0), (78, .invokespecial 83, 3, 0), (81, .athrow, 1, 0), (82, .aload_n 0, 1, 0), (83, .getfield 40, 3, 0), (86, .getfield 75, 3, 0), (89, .iload 5, 2, 0), (91, .iaload, 1, 0), (92, .iconst (-1), 1, 0), (93, .if_icmp .ne 15, 3, 108), (96, .aload_n 0, 1, 0), (97, .getfield 40, 3, 0)]
theorem mk53_3 : (mc53_3).all (m_okI prog_1_method_6_code) = true := by decide +kernel
def mc53_4 : List (Nat × Instr × Nat × Nat) := [(100, .getfield 134, 3, 0), (103, .bipush 60, 2, 0), (105, .if_icmp .lt 13, 3, 118), (108, .new 79, 3, 0), (111, .dup, 1, 0), (112, .ldc 137, 2, 0), (114, .invokespecial 83, 3, 0), (117, .athrow, 1, 0), (118, .aload_n 0, 1, 0), (119, .iconst 0, 1, 0), (120, .putfield 60, 3, 0), (123, .aload_n 0, 1, 0)]
theorem mk53_4 : (mc53_4).all (m_okI prog_1_method_6_code) = true := by decide +kernel
def mc53_5 : List (Nat × Instr × Nat × Nat) := [(124, .getfield 40, 3, 0), (127, .iload 5, 2, 0), (129, .iload_n 3, 1, 0), (130, .iload 4, 2, 0), (132, .invokevirtual 139, 3, 0), (135, .ireturn, 1, 0)]
theorem mk53_5 : (mc53_5).all (m_okI prog_1_method_6_code) = true := by decide +kernel
def mc53 : List (Nat × List (Nat × Instr × Nat × Nat)) := [(20, mc53_0), (48, mc53_1), (76, mc53_2), (98, mc53_3), (124, mc53_4), (136, mc53_5)]
theorem mk53 : ∀ c ∈ mc53, c.2.all (m_okI prog_1_method_6_code) = true := by
  simp only [mc53, List.forall_mem_cons, List.not_mem_nil, false_implies, implies_true, and_true]
  exact ⟨mk53_0, mk53_1, mk53_2, mk53_3, mk53_4, mk53_5⟩
/-- EscapeCells.habit(II)I -/
def mc54_0 : List (Nat × Instr × Nat × Nat) := [(0, .aload_n 0, 1, 0), (1, .getfield 40, 3, 0), (4, .iload_n 1, 1, 0), (5, .invokevirtual 143, 3, 0), (8, .ifCond .eq 14, 3, 22), (11, .aload_n 0, 1, 0), (12, .getfield 18, 3, 0), (15, .iload_n 2, 1, 0), (16, .invokevirtual 146, 3, 0), (19, .ifCond .ne 13, 3, 32), (22, .new 68, 3, 0), (25, .dup, 1, 0)]
theorem mk54_0 : (mc54_0).all (m_okI prog_1_method_7_code) = true := by decide +kernel
def mc54_1 : List (Nat × Instr × Nat × Nat) := [(26, .ldc 149, 2, 0), (28, .invokespecial 72, 3, 0), (31, .athrow, 1, 0), (32, .aload_n 0, 1, 0), (33, .getfield 40, 3, 0), (36, .getfield 151, 3, 0), (39, .iload_n 1, 1, 0), (40, .iaload, 1, 0), (41, .istore_n 3, 1, 0), (42, .aload_n 0, 1, 0), (43, .getfield 40, 3, 0), (46, .getfield 151, 3, 0)]
theorem mk54_1 : (mc54_1).all (m_okI prog_1_method_7_code) = true := by decide +kernel
def mc54_2 : List (Nat × Instr × Nat × Nat) := [(49, .iload_n 1, 1, 0), (50, .iload_n 2, 1, 0), (51, .iastore, 1, 0), (52, .aload_n 0, 1, 0), (53, .iconst 0, 1, 0), (54, .putfield 60, 3, 0), (57, .iload_n 3, 1, 0), (58, .ireturn, 1, 0)]
theorem mk54_2 : (mc54_2).all (m_okI prog_1_method_7_code) = true := by decide +kernel
def mc54 : List (Nat × List (Nat × Instr × Nat × Nat)) := [(26, mc54_0), (47, mc54_1), (59, mc54_2)]
theorem mk54 : ∀ c ∈ mc54, c.2.all (m_okI prog_1_method_7_code) = true := by
  simp only [mc54, List.forall_mem_cons, List.not_mem_nil, false_implies, implies_true, and_true]
  exact ⟨mk54_0, mk54_1, mk54_2⟩
/-- EscapeCells.ways()I -/
def mc55_0 : List (Nat × Instr × Nat × Nat) := [(0, .aload_n 0, 1, 0), (1, .getfield 27, 3, 0), (4, .iconst (-1), 1, 0), (5, .invokevirtual 154, 3, 0), (8, .astore_n 1, 1, 0), (9, .iconst 0, 1, 0), (10, .istore_n 2, 1, 0), (11, .iconst 0, 1, 0), (12, .istore_n 3, 1, 0), (13, .iload_n 3, 1, 0), (14, .aload_n 1, 1, 0), (15, .arraylength, 1, 0)]
theorem mk55_0 : (mc55_0).all (m_okI prog_1_method_8_code) = true := by decide +kernel
def mc55_1 : List (Nat × Instr × Nat × Nat) := [(16, .if_icmp .ge 19, 3, 35), (19, .aload_n 1, 1, 0), (20, .iload_n 3, 1, 0), (21, .iaload, 1, 0), (22, .iconst (-1), 1, 0), (23, .if_icmp .eq 6, 3, 29), (26, .iinc 2 1, 3, 0), (29, .iinc 3 1, 3, 0), (32, .goto (-19), 3, 13), (35, .iload_n 2, 1, 0), (36, .ireturn, 1, 0)]
theorem mk55_1 : (mc55_1).all (m_okI prog_1_method_8_code) = true := by decide +kernel
def mc55 : List (Nat × List (Nat × Instr × Nat × Nat)) := [(16, mc55_0), (37, mc55_1)]
theorem mk55 : ∀ c ∈ mc55, c.2.all (m_okI prog_1_method_8_code) = true := by
  simp only [mc55, List.forall_mem_cons, List.not_mem_nil, false_implies, implies_true, and_true]
  exact ⟨mk55_0, mk55_1⟩
end
section
/-- EscapeCells.walk(III)I -/
def mc56_0 : List (Nat × Instr × Nat × Nat) := [(0, .aload_n 0, 1, 0), (1, .getfield 18, 3, 0), (4, .iload_n 1, 1, 0), (5, .iload_n 2, 1, 0), (6, .invokevirtual 64, 3, 0), (9, .istore 4, 2, 0), (11, .iload 4, 2, 0), (13, .iconst (-1), 1, 0), (14, .if_icmp .eq 14, 3, 28), (17, .aload_n 0, 1, 0), (18, .getfield 18, 3, 0), (21, .iload_n 3, 1, 0)]
theorem mk56_0 : (mc56_0).all (m_okI prog_1_method_9_code) = true := by decide +kernel
def mc56_1 : List (Nat × Instr × Nat × Nat) := [(22, .invokevirtual 146, 3, 0), (25, .ifCond .ne 13, 3, 38), (28, .new 68, 3, 0), (31, .dup, 1, 0), (32, .ldc 158, 2, 0), (34, .invokespecial 72, 3, 0), (37, .athrow, 1, 0), (38, .aload_n 0, 1, 0), (39, .getfield 27, 3, 0), (42, .iload_n 3, 1, 0), (43, .invokevirtual 154, 3, 0), (46, .iload 4, 2, 0)]
theorem mk56_1 : (mc56_1).all (m_okI prog_1_method_9_code) = true := by decide +kernel
def mc56_2 : List (Nat × Instr × Nat × Nat) := [(48, .iaload, 1, 0), (49, .ireturn, 1, 0)]
theorem mk56_2 : (mc56_2).all (m_okI prog_1_method_9_code) = true := by decide +kernel
def mc56 : List (Nat × List (Nat × Instr × Nat × Nat)) := [(22, mc56_0), (47, mc56_1), (50, mc56_2)]
theorem mk56 : ∀ c ∈ mc56, c.2.all (m_okI prog_1_method_9_code) = true := by
  simp only [mc56, List.forall_mem_cons, List.not_mem_nil, false_implies, implies_true, and_true]
  exact ⟨mk56_0, mk56_1, mk56_2⟩
/-- EscapeCells.run()I -/
def mc57_0 : List (Nat × Instr × Nat × Nat) := [(0, .aload_n 0, 1, 0), (1, .getfield 60, 3, 0), (4, .ifCond .ne 22, 3, 26), (7, .aload_n 0, 1, 0), (8, .getfield 27, 3, 0), (11, .invokevirtual 160, 3, 0), (14, .aload_n 0, 1, 0), (15, .getfield 49, 3, 0), (18, .invokevirtual 163, 3, 0), (21, .aload_n 0, 1, 0), (22, .iconst 1, 1, 0), (23, .putfield 60, 3, 0)]
theorem mk57_0 : (mc57_0).all (m_okI prog_1_method_10_code) = true := by decide +kernel
def mc57_1 : List (Nat × Instr × Nat × Nat) := [(26, .aload_n 0, 1, 0), (27, .getfield 49, 3, 0), (30, .getfield 166, 3, 0), (33, .ireturn, 1, 0)]
theorem mk57_1 : (mc57_1).all (m_okI prog_1_method_10_code) = true := by decide +kernel
def mc57 : List (Nat × List (Nat × Instr × Nat × Nat)) := [(24, mc57_0), (34, mc57_1)]
theorem mk57 : ∀ c ∈ mc57, c.2.all (m_okI prog_1_method_10_code) = true := by
  simp only [mc57, List.forall_mem_cons, List.not_mem_nil, false_implies, implies_true, and_true]
  exact ⟨mk57_0, mk57_1⟩
/-- EscapeCells.told(II)I -/
def mc58_0 : List (Nat × Instr × Nat × Nat) := [(0, .aload_n 0, 1, 0), (1, .getfield 40, 3, 0), (4, .iload_n 1, 1, 0), (5, .invokevirtual 143, 3, 0), (8, .ifCond .eq 12, 3, 20), (11, .iload_n 2, 1, 0), (12, .iconst 0, 1, 0), (13, .iconst 3, 1, 0), (14, .invokestatic 97, 3, 0), (17, .ifCond .ne 13, 3, 30), (20, .new 68, 3, 0), (23, .dup, 1, 0)]
theorem mk58_0 : (mc58_0).all (m_okI prog_1_method_11_code) = true := by decide +kernel
def mc58_1 : List (Nat × Instr × Nat × Nat) := [(24, .ldc 169, 2, 0), (26, .invokespecial 72, 3, 0), (29, .athrow, 1, 0), (30, .aload_n 0, 1, 0), (31, .getfield 60, 3, 0), (34, .ifCond .ne 13, 3, 47), (37, .new 79, 3, 0), (40, .dup, 1, 0), (41, .ldc 171, 2, 0), (43, .invokespecial 83, 3, 0), (46, .athrow, 1, 0), (47, .iload_n 2, 1, 0)]
theorem mk58_1 : (mc58_1).all (m_okI prog_1_method_11_code) = true := by decide +kernel
def mc58_2 : List (Nat × Instr × Nat × Nat) := [(48, .tableswitch 58 0 2 #[28, 38, 48], 28, 0), (76, .aload_n 0, 1, 0), (77, .getfield 49, 3, 0), (80, .getfield 173, 3, 0), (83, .iload_n 1, 1, 0), (84, .iaload, 1, 0), (85, .ireturn, 1, 0), (86, .aload_n 0, 1, 0), (87, .getfield 49, 3, 0), (90, .getfield 176, 3, 0), (93, .iload_n 1, 1, 0), (94, .iaload, 1, 0)]
theorem mk58_2 : (mc58_2).all (m_okI prog_1_method_11_code) = true := by decide +kernel
def mc58_3 : List (Nat × Instr × Nat × Nat) := [(95, .ireturn, 1, 0), (96, .aload_n 0, 1, 0), (97, .getfield 49, 3, 0), (100, .getfield 179, 3, 0), (103, .iload_n 1, 1, 0), (104, .iaload, 1, 0), (105, .ireturn, 1, 0), (106, .aload_n 0, 1, 0), (107, .getfield 49, 3, 0), (110, .getfield 182, 3, 0), (113, .iload_n 1, 1, 0), (114, .iaload, 1, 0)]
theorem mk58_3 : (mc58_3).all (m_okI prog_1_method_11_code) = true := by decide +kernel
def mc58_4 : List (Nat × Instr × Nat × Nat) := [(115, .ireturn, 1, 0)]
theorem mk58_4 : (mc58_4).all (m_okI prog_1_method_11_code) = true := by decide +kernel
def mc58 : List (Nat × List (Nat × Instr × Nat × Nat)) := [(24, mc58_0), (48, mc58_1), (95, mc58_2), (115, mc58_3), (116, mc58_4)]
theorem mk58 : ∀ c ∈ mc58, c.2.all (m_okI prog_1_method_11_code) = true := by
  simp only [mc58, List.forall_mem_cons, List.not_mem_nil, false_implies, implies_true, and_true]
  exact ⟨mk58_0, mk58_1, mk58_2, mk58_3, mk58_4⟩
/-- EscapeCells.at(III)I -/
def mc59_0 : List (Nat × Instr × Nat × Nat) := [(0, .aload_n 0, 1, 0), (1, .getfield 40, 3, 0), (4, .iload_n 1, 1, 0), (5, .invokevirtual 143, 3, 0), (8, .ifCond .eq 23, 3, 31), (11, .iload_n 2, 1, 0), (12, .iconst 0, 1, 0), (13, .sipush 3600, 3, 0), (16, .invokestatic 97, 3, 0), (19, .ifCond .eq 12, 3, 31), (22, .iload_n 3, 1, 0), (23, .iconst 0, 1, 0)]
theorem mk59_0 : (mc59_0).all (m_okI prog_1_method_12_code) = true := by decide +kernel
def mc59_1 : List (Nat × Instr × Nat × Nat) := [(24, .iconst 1, 1, 0), (25, .invokestatic 97, 3, 0), (28, .ifCond .ne 13, 3, 41), (31, .new 68, 3, 0), (34, .dup, 1, 0), (35, .ldc 185, 2, 0), (37, .invokespecial 72, 3, 0), (40, .athrow, 1, 0), (41, .aload_n 0, 1, 0), (42, .getfield 60, 3, 0), (45, .ifCond .ne 13, 3, 58), (48, .new 79, 3, 0)]
theorem mk59_1 : (mc59_1).all (m_okI prog_1_method_12_code) = true := by decide +kernel
def mc59_2 : List (Nat × Instr × Nat × Nat) := [(51, .dup, 1, 0), (52, .ldc 171, 2, 0), (54, .invokespecial 83, 3, 0), (57, .athrow, 1, 0), (58, .aload_n 0, 1, 0), (59, .getfield 49, 3, 0), (62, .iload_n 1, 1, 0), (63, .iload_n 2, 1, 0), (64, .invokevirtual 187, 3, 0), (67, .istore 4, 2, 0), (69, .iload 4, 2, 0), (71, .iconst (-1), 1, 0)]
theorem mk59_2 : (mc59_2).all (m_okI prog_1_method_12_code) = true := by decide +kernel
def mc59_3 : List (Nat × Instr × Nat × Nat) := [(72, .if_icmp .ne 5, 3, 77), (75, .iconst (-1), 1, 0), (76, .ireturn, 1, 0), (77, .iload_n 3, 1, 0), (78, .ifCond .ne 16, 3, 94), (81, .aload_n 0, 1, 0), (82, .getfield 18, 3, 0), (85, .getfield 190, 3, 0), (88, .iload 4, 2, 0), (90, .iaload, 1, 0), (91, .goto 13, 3, 104), (94, .aload_n 0, 1, 0)]
theorem mk59_3 : (mc59_3).all (m_okI prog_1_method_12_code) = true := by decide +kernel
def mc59_4 : List (Nat × Instr × Nat × Nat) := [(95, .getfield 18, 3, 0), (98, .getfield 193, 3, 0), (101, .iload 4, 2, 0), (103, .iaload, 1, 0), (104, .ireturn, 1, 0)]
theorem mk59_4 : (mc59_4).all (m_okI prog_1_method_12_code) = true := by decide +kernel
def mc59 : List (Nat × List (Nat × Instr × Nat × Nat)) := [(24, mc59_0), (49, mc59_1), (72, mc59_2), (95, mc59_3), (105, mc59_4)]
theorem mk59 : ∀ c ∈ mc59, c.2.all (m_okI prog_1_method_12_code) = true := by
  simp only [mc59, List.forall_mem_cons, List.not_mem_nil, false_implies, implies_true, and_true]
  exact ⟨mk59_0, mk59_1, mk59_2, mk59_3, mk59_4⟩
/-- EscapeCells.through(II)I -/
def mc60_0 : List (Nat × Instr × Nat × Nat) := [(0, .aload_n 0, 1, 0), (1, .getfield 18, 3, 0), (4, .iload_n 1, 1, 0), (5, .iload_n 2, 1, 0), (6, .invokevirtual 64, 3, 0), (9, .istore_n 3, 1, 0), (10, .iload_n 3, 1, 0), (11, .iconst (-1), 1, 0), (12, .if_icmp .ne 13, 3, 25), (15, .new 68, 3, 0), (18, .dup, 1, 0), (19, .ldc 70, 2, 0)]
theorem mk60_0 : (mc60_0).all (m_okI prog_1_method_13_code) = true := by decide +kernel
def mc60_1 : List (Nat × Instr × Nat × Nat) := [(21, .invokespecial 72, 3, 0), (24, .athrow, 1, 0), (25, .aload_n 0, 1, 0), (26, .getfield 60, 3, 0), (29, .ifCond .ne 13, 3, 42), (32, .new 79, 3, 0), (35, .dup, 1, 0), (36, .ldc 171, 2, 0), (38, .invokespecial 83, 3, 0), (41, .athrow, 1, 0), (42, .aload_n 0, 1, 0), (43, .getfield 49, 3, 0)]
theorem mk60_1 : (mc60_1).all (m_okI prog_1_method_13_code) = true := by decide +kernel
def mc60_2 : List (Nat × Instr × Nat × Nat) := [(46, .getfield 196, 3, 0), (49, .iload_n 3, 1, 0), (50, .iaload, 1, 0), (51, .ireturn, 1, 0)]
theorem mk60_2 : (mc60_2).all (m_okI prog_1_method_13_code) = true := by decide +kernel
def mc60 : List (Nat × List (Nat × Instr × Nat × Nat)) := [(20, mc60_0), (44, mc60_1), (52, mc60_2)]
theorem mk60 : ∀ c ∈ mc60, c.2.all (m_okI prog_1_method_13_code) = true := by
  simp only [mc60, List.forall_mem_cons, List.not_mem_nil, false_implies, implies_true, and_true]
  exact ⟨mk60_0, mk60_1, mk60_2⟩
/-- EscapeCells.left(I)I -/
def mc61_0 : List (Nat × Instr × Nat × Nat) := [(0, .iload_n 1, 1, 0), (1, .iconst 0, 1, 0), (2, .sipush 3600, 3, 0), (5, .invokestatic 97, 3, 0), (8, .ifCond .ne 13, 3, 21), (11, .new 68, 3, 0), (14, .dup, 1, 0), (15, .ldc 199, 2, 0), (17, .invokespecial 72, 3, 0), (20, .athrow, 1, 0), (21, .aload_n 0, 1, 0), (22, .getfield 60, 3, 0)]
theorem mk61_0 : (mc61_0).all (m_okI prog_1_method_14_code) = true := by decide +kernel
def mc61_1 : List (Nat × Instr × Nat × Nat) := [(25, .ifCond .ne 13, 3, 38), (28, .new 79, 3, 0), (31, .dup, 1, 0), (32, .ldc 171, 2, 0), (34, .invokespecial 83, 3, 0), (37, .athrow, 1, 0), (38, .aload_n 0, 1, 0), (39, .getfield 49, 3, 0), (42, .iload_n 1, 1, 0), (43, .invokevirtual 201, 3, 0), (46, .ireturn, 1, 0)]
theorem mk61_1 : (mc61_1).all (m_okI prog_1_method_14_code) = true := by decide +kernel
def mc61 : List (Nat × List (Nat × Instr × Nat × Nat)) := [(23, mc61_0), (47, mc61_1)]
theorem mk61 : ∀ c ∈ mc61, c.2.all (m_okI prog_1_method_14_code) = true := by
  simp only [mc61, List.forall_mem_cons, List.not_mem_nil, false_implies, implies_true, and_true]
  exact ⟨mk61_0, mk61_1⟩
/-- EscapeCells.turns()I -/
def mc62_0 : List (Nat × Instr × Nat × Nat) := [(0, .aload_n 0, 1, 0), (1, .getfield 56, 3, 0), (4, .aload_n 0, 1, 0), (5, .getfield 27, 3, 0), (8, .iconst (-1), 1, 0), (9, .invokevirtual 154, 3, 0), (12, .invokevirtual 204, 3, 0), (15, .ireturn, 1, 0)]
theorem mk62_0 : (mc62_0).all (m_okI prog_1_method_15_code) = true := by decide +kernel
def mc62 : List (Nat × List (Nat × Instr × Nat × Nat)) := [(16, mc62_0)]
theorem mk62 : ∀ c ∈ mc62, c.2.all (m_okI prog_1_method_15_code) = true := by
  simp only [mc62, List.forall_mem_cons, List.not_mem_nil, false_implies, implies_true, and_true]
  exact mk62_0
/-- EscapeCells.signs()I -/
def mc63_0 : List (Nat × Instr × Nat × Nat) := [(0, .aload_n 0, 1, 0), (1, .getfield 56, 3, 0), (4, .aload_n 0, 1, 0), (5, .getfield 27, 3, 0), (8, .iconst (-1), 1, 0), (9, .invokevirtual 154, 3, 0), (12, .invokevirtual 208, 3, 0), (15, .ireturn, 1, 0)]
theorem mk63_0 : (mc63_0).all (m_okI prog_1_method_16_code) = true := by decide +kernel
def mc63 : List (Nat × List (Nat × Instr × Nat × Nat)) := [(16, mc63_0)]
theorem mk63 : ∀ c ∈ mc63, c.2.all (m_okI prog_1_method_16_code) = true := by
  simp only [mc63, List.forall_mem_cons, List.not_mem_nil, false_implies, implies_true, and_true]
  exact mk63_0
/-- EscapeCells.sideOf(I)I -/
def mc64_0 : List (Nat × Instr × Nat × Nat) := [(0, .iconst 2, 1, 0), (1, .bipush 24, 2, 0), (3, .iload_n 0, 1, 0), (4, .invokestatic 211, 3, 0), (7, .invokestatic 216, 3, 0), (10, .ireturn, 1, 0)]
theorem mk64_0 : (mc64_0).all (m_okI prog_1_method_17_code) = true := by decide +kernel
def mc64 : List (Nat × List (Nat × Instr × Nat × Nat)) := [(11, mc64_0)]
theorem mk64 : ∀ c ∈ mc64, c.2.all (m_okI prog_1_method_17_code) = true := by
  simp only [mc64, List.forall_mem_cons, List.not_mem_nil, false_implies, implies_true, and_true]
  exact mk64_0
/-- EscapeCells.isWithin(III)Z -/
def mc65_0 : List (Nat × Instr × Nat × Nat) := [(0, .iload_n 0, 1, 0), (1, .iload_n 1, 1, 0), (2, .if_icmp .lt 12, 3, 14), (5, .iload_n 0, 1, 0), (6, .iload_n 2, 1, 0), (7, .if_icmp .gt 7, 3, 14), (10, .iconst 1, 1, 0), (11, .goto 4, 3, 15), (14, .iconst 0, 1, 0), (15, .ireturn, 1, 0)]
theorem mk65_0 : (mc65_0).all (m_okI prog_1_method_18_code) = true := by decide +kernel
def mc65 : List (Nat × List (Nat × Instr × Nat × Nat)) := [(16, mc65_0)]
theorem mk65 : ∀ c ∈ mc65, c.2.all (m_okI prog_1_method_18_code) = true := by
  simp only [mc65, List.forall_mem_cons, List.not_mem_nil, false_implies, implies_true, and_true]
  exact mk65_0
/-- EscapeCellsModel.<init>(II)V -/
def mc66_0 : List (Nat × Instr × Nat × Nat) := [(0, .aload_n 0, 1, 0), (1, .invokespecial 1, 3, 0), (4, .aload_n 0, 1, 0), (5, .sipush 576, 3, 0), (8, .newarray .boolean, 2, 0), (10, .putfield 7, 3, 0), (13, .aload_n 0, 1, 0), (14, .sipush 576, 3, 0), (17, .newarray .int, 2, 0), (19, .putfield 13, 3, 0), (22, .aload_n 0, 1, 0), (23, .sipush 576, 3, 0)]
theorem mk66_0 : (mc66_0).all (m_okI prog_8_method_1_code) = true := by decide +kernel
def mc66_1 : List (Nat × Instr × Nat × Nat) := [(26, .newarray .int, 2, 0), (28, .putfield 17, 3, 0), (31, .aload_n 0, 1, 0), (32, .sipush 576, 3, 0), (35, .newarray .int, 2, 0), (37, .putfield 20, 3, 0), (40, .aload_n 0, 1, 0), (41, .bipush 8, 2, 0), (43, .newarray .int, 2, 0), (45, .putfield 23, 3, 0), (48, .aload_n 0, 1, 0), (49, .bipush 60, 2, 0)]
theorem mk66_1 : (mc66_1).all (m_okI prog_8_method_1_code) = true := by decide +kernel
def mc66_2 : List (Nat × Instr × Nat × Nat) := [(51, .newarray .int, 2, 0), (53, .putfield 26, 3, 0), (56, .aload_n 0, 1, 0), (57, .bipush 60, 2, 0), (59, .newarray .int, 2, 0), (61, .putfield 29, 3, 0), (64, .aload_n 0, 1, 0), (65, .bipush 60, 2, 0), (67, .newarray .int, 2, 0), (69, .putfield 32, 3, 0), (72, .aload_n 0, 1, 0), (73, .bipush 60, 2, 0)]
theorem mk66_2 : (mc66_2).all (m_okI prog_8_method_1_code) = true := by decide +kernel
def mc66_3 : List (Nat × Instr × Nat × Nat) := [(75, .newarray .int, 2, 0), (77, .putfield 35, 3, 0), (80, .aload_n 0, 1, 0), (81, .sipush 5184, 3, 0), (84, .newarray .int, 2, 0), (86, .putfield 38, 3, 0), (89, .aload_n 0, 1, 0), (90, .sipush 576, 3, 0), (93, .newarray .int, 2, 0), (95, .putfield 41, 3, 0), (98, .aload_n 0, 1, 0), (99, .bipush 60, 2, 0)]
theorem mk66_3 : (mc66_3).all (m_okI prog_8_method_1_code) = true := by decide +kernel
def mc66_4 : List (Nat × Instr × Nat × Nat) := [(101, .newarray .int, 2, 0), (103, .putfield 44, 3, 0), (106, .aload_n 0, 1, 0), (107, .bipush 60, 2, 0), (109, .newarray .int, 2, 0), (111, .putfield 47, 3, 0), (114, .aload_n 0, 1, 0), (115, .bipush 60, 2, 0), (117, .newarray .int, 2, 0), (119, .putfield 50, 3, 0), (122, .aload_n 0, 1, 0), (123, .bipush 60, 2, 0)]
theorem mk66_4 : (mc66_4).all (m_okI prog_8_method_1_code) = true := by decide +kernel
def mc66_5 : List (Nat × Instr × Nat × Nat) := [(125, .newarray .int, 2, 0), (127, .putfield 53, 3, 0), (130, .aload_n 0, 1, 0), (131, .ldc 56, 2, 0), (133, .newarray .int, 2, 0), (135, .putfield 57, 3, 0), (138, .aload_n 0, 1, 0), (139, .ldc 56, 2, 0), (141, .newarray .int, 2, 0), (143, .putfield 60, 3, 0), (146, .aload_n 0, 1, 0), (147, .bipush 60, 2, 0)]
theorem mk66_5 : (mc66_5).all (m_okI prog_8_method_1_code) = true := by decide +kernel
def mc66_6 : List (Nat × Instr × Nat × Nat) := [(149, .newarray .int, 2, 0), (151, .putfield 63, 3, 0), (154, .aload_n 0, 1, 0), (155, .sipush 576, 3, 0), (158, .newarray .int, 2, 0), (160, .putfield 66, 3, 0), (163, .aload_n 0, 1, 0), (164, .sipush 576, 3, 0), (167, .newarray .int, 2, 0), (169, .putfield 69, 3, 0), (172, .aload_n 0, 1, 0), (173, .sipush 576, 3, 0)]
theorem mk66_6 : (mc66_6).all (m_okI prog_8_method_1_code) = true := by decide +kernel
def mc66_7 : List (Nat × Instr × Nat × Nat) := [(176, .newarray .int, 2, 0), (178, .putfield 72, 3, 0), (181, .aload_n 0, 1, 0), (182, .bipush 60, 2, 0), (184, .newarray .boolean, 2, 0), (186, .putfield 75, 3, 0), (189, .aload_n 0, 1, 0), (190, .sipush 4096, 3, 0), (193, .newarray .int, 2, 0), (195, .putfield 78, 3, 0), (198, .aload_n 0, 1, 0), (199, .iload_n 1, 1, 0)]
theorem mk66_7 : (mc66_7).all (m_okI prog_8_method_1_code) = true := by decide +kernel
def mc66_8 : List (Nat × Instr × Nat × Nat) := [(200, .iconst 2, 1, 0), (201, .if_icmp .ge 7, 3, 208), (204, .iconst 2, 1, 0), (205, .goto 15, 3, 220), (208, .iload_n 1, 1, 0), (209, .bipush 24, 2, 0), (211, .if_icmp .le 8, 3, 219), (214, .bipush 24, 2, 0), (216, .goto 4, 3, 220), (219, .iload_n 1, 1, 0), (220, .putfield 81, 3, 0), (223, .aload_n 0, 1, 0)]
theorem mk66_8 : (mc66_8).all (m_okI prog_8_method_1_code) = true := by decide +kernel
def mc66_9 : List (Nat × Instr × Nat × Nat) := [(224, .iload_n 2, 1, 0), (225, .iconst 2, 1, 0), (226, .if_icmp .ge 7, 3, 233), (229, .iconst 2, 1, 0), (230, .goto 15, 3, 245), (233, .iload_n 2, 1, 0), (234, .bipush 24, 2, 0), (236, .if_icmp .le 8, 3, 244), (239, .bipush 24, 2, 0), (241, .goto 4, 3, 245), (244, .iload_n 2, 1, 0), (245, .putfield 85, 3, 0)]
theorem mk66_9 : (mc66_9).all (m_okI prog_8_method_1_code) = true := by decide +kernel
def mc66_10 : List (Nat × Instr × Nat × Nat) := [(248, .iconst 0, 1, 0), (249, .istore_n 3, 1, 0), (250, .iload_n 3, 1, 0), (251, .sipush 576, 3, 0), (254, .if_icmp .ge 23, 3, 277), (257, .aload_n 0, 1, 0), (258, .getfield 13, 3, 0), (261, .iload_n 3, 1, 0), (262, .iconst (-1), 1, 0), (263, .iastore, 1, 0), (264, .aload_n 0, 1, 0), (265, .getfield 20, 3, 0)]
theorem mk66_10 : (mc66_10).all (m_okI prog_8_method_1_code) = true := by decide +kernel
def mc66_11 : List (Nat × Instr × Nat × Nat) := [(268, .iload_n 3, 1, 0), (269, .iconst (-1), 1, 0), (270, .iastore, 1, 0), (271, .iinc 3 1, 3, 0), (274, .goto (-24), 3, 250), (277, .return_, 1, 0)]
theorem mk66_11 : (mc66_11).all (m_okI prog_8_method_1_code) = true := by decide +kernel
def mc66 : List (Nat × List (Nat × Instr × Nat × Nat)) := [(24, mc66_0), (50, mc66_1), (74, mc66_2), (100, mc66_3), (124, mc66_4), (148, mc66_5), (174, mc66_6), (200, mc66_7), (224, mc66_8), (246, mc66_9), (266, mc66_10), (278, mc66_11)]
theorem mk66 : ∀ c ∈ mc66, c.2.all (m_okI prog_8_method_1_code) = true := by
  simp only [mc66, List.forall_mem_cons, List.not_mem_nil, false_implies, implies_true, and_true]
  exact ⟨mk66_0, mk66_1, mk66_2, mk66_3, mk66_4, mk66_5, mk66_6, mk66_7, mk66_8, mk66_9, mk66_10, mk66_11⟩
/-- EscapeCellsModel.thrown()I -/
def mc67_0 : List (Nat × Instr × Nat × Nat) := [(0, .aload_n 0, 1, 0), (1, .getfield 88, 3, 0), (4, .ireturn, 1, 0)]
theorem mk67_0 : (mc67_0).all (m_okI prog_8_method_2_code) = true := by decide +kernel
def mc67 : List (Nat × List (Nat × Instr × Nat × Nat)) := [(5, mc67_0)]
theorem mk67 : ∀ c ∈ mc67, c.2.all (m_okI prog_8_method_2_code) = true := by
  simp only [mc67, List.forall_mem_cons, List.not_mem_nil, false_implies, implies_true, and_true]
  exact mk67_0
/-- EscapeCellsModel.refuses(I)Z -/
def mc68_0 : List (Nat × Instr × Nat × Nat) := [(0, .aload_n 0, 1, 0), (1, .iload_n 1, 1, 0), (2, .putfield 88, 3, 0), (5, .iload_n 1, 1, 0), (6, .ifCond .le 7, 3, 13), (9, .iconst 1, 1, 0), (10, .goto 4, 3, 14), (13, .iconst 0, 1, 0), (14, .ireturn, 1, 0)]
theorem mk68_0 : (mc68_0).all (m_okI prog_8_method_3_code) = true := by decide +kernel
def mc68 : List (Nat × List (Nat × Instr × Nat × Nat)) := [(15, mc68_0)]
theorem mk68 : ∀ c ∈ mc68, c.2.all (m_okI prog_8_method_3_code) = true := by
  simp only [mc68, List.forall_mem_cons, List.not_mem_nil, false_implies, implies_true, and_true]
  exact mk68_0
/-- EscapeCellsModel.isCell(II)Z -/
def mc69_0 : List (Nat × Instr × Nat × Nat) := [(0, .iload_n 1, 1, 0), (1, .ifCond .lt 27, 3, 28), (4, .iload_n 1, 1, 0), (5, .aload_n 0, 1, 0), (6, .getfield 81, 3, 0), (9, .if_icmp .ge 19, 3, 28), (12, .iload_n 2, 1, 0), (13, .ifCond .lt 15, 3, 28), (16, .iload_n 2, 1, 0), (17, .aload_n 0, 1, 0), (18, .getfield 85, 3, 0), (21, .if_icmp .ge 7, 3, 28)]
theorem mk69_0 : (mc69_0).all (m_okI prog_8_method_4_code) = true := by decide +kernel
def mc69_1 : List (Nat × Instr × Nat × Nat) := [(24, .iconst 1, 1, 0), (25, .goto 4, 3, 29), (28, .iconst 0, 1, 0), (29, .ireturn, 1, 0)]
theorem mk69_1 : (mc69_1).all (m_okI prog_8_method_4_code) = true := by decide +kernel
def mc69 : List (Nat × List (Nat × Instr × Nat × Nat)) := [(22, mc69_0), (30, mc69_1)]
theorem mk69 : ∀ c ∈ mc69, c.2.all (m_okI prog_8_method_4_code) = true := by
  simp only [mc69, List.forall_mem_cons, List.not_mem_nil, false_implies, implies_true, and_true]
  exact ⟨mk69_0, mk69_1⟩
/-- EscapeCellsModel.cell(II)I -/
def mc70_0 : List (Nat × Instr × Nat × Nat) := [(0, .bipush 24, 2, 0), (2, .iload_n 1, 1, 0), (3, .imul, 1, 0), (4, .iload_n 0, 1, 0), (5, .iadd, 1, 0), (6, .ireturn, 1, 0)]
theorem mk70_0 : (mc70_0).all (m_okI prog_8_method_5_code) = true := by decide +kernel
def mc70 : List (Nat × List (Nat × Instr × Nat × Nat)) := [(7, mc70_0)]
theorem mk70 : ∀ c ∈ mc70, c.2.all (m_okI prog_8_method_5_code) = true := by
  simp only [mc70, List.forall_mem_cons, List.not_mem_nil, false_implies, implies_true, and_true]
  exact mk70_0
/-- EscapeCellsModel.hasPerson(I)Z -/
def mc71_0 : List (Nat × Instr × Nat × Nat) := [(0, .iconst 0, 1, 0), (1, .istore_n 2, 1, 0), (2, .iconst 0, 1, 0), (3, .istore_n 3, 1, 0), (4, .iload_n 3, 1, 0), (5, .aload_n 0, 1, 0), (6, .getfield 91, 3, 0), (9, .if_icmp .ge 29, 3, 38), (12, .iload_n 2, 1, 0), (13, .ifCond .ne 13, 3, 26), (16, .aload_n 0, 1, 0), (17, .getfield 26, 3, 0)]
theorem mk71_0 : (mc71_0).all (m_okI prog_8_method_6_code) = true := by decide +kernel
def mc71_1 : List (Nat × Instr × Nat × Nat) := [(20, .iload_n 3, 1, 0), (21, .iaload, 1, 0), (22, .iload_n 1, 1, 0), (23, .if_icmp .ne 7, 3, 30), (26, .iconst 1, 1, 0), (27, .goto 4, 3, 31), (30, .iconst 0, 1, 0), (31, .istore_n 2, 1, 0), (32, .iinc 3 1, 3, 0), (35, .goto (-31), 3, 4), (38, .iload_n 2, 1, 0), (39, .ireturn, 1, 0)]
theorem mk71_1 : (mc71_1).all (m_okI prog_8_method_6_code) = true := by decide +kernel
def mc71 : List (Nat × List (Nat × Instr × Nat × Nat)) := [(18, mc71_0), (40, mc71_1)]
theorem mk71 : ∀ c ∈ mc71, c.2.all (m_okI prog_8_method_6_code) = true := by
  simp only [mc71, List.forall_mem_cons, List.not_mem_nil, false_implies, implies_true, and_true]
  exact ⟨mk71_0, mk71_1⟩
/-- EscapeCellsModel.changed()V -/
def mc72_0 : List (Nat × Instr × Nat × Nat) := [(0, .aload_n 0, 1, 0), (1, .iconst 0, 1, 0), (2, .putfield 94, 3, 0), (5, .aload_n 0, 1, 0), (6, .iconst 0, 1, 0), (7, .putfield 98, 3, 0), (10, .return_, 1, 0)]
theorem mk72_0 : (mc72_0).all (m_okI prog_8_method_7_code) = true := by decide +kernel
def mc72 : List (Nat × List (Nat × Instr × Nat × Nat)) := [(11, mc72_0)]
theorem mk72 : ∀ c ∈ mc72, c.2.all (m_okI prog_8_method_7_code) = true := by
  simp only [mc72, List.forall_mem_cons, List.not_mem_nil, false_implies, implies_true, and_true]
  exact mk72_0
/-- EscapeCellsModel.wall(IIZ)Z -/
def mc73_0 : List (Nat × Instr × Nat × Nat) := [(0, .aload_n 0, 1, 0), (1, .aload_n 0, 1, 0), (2, .iload_n 1, 1, 0), (3, .iload_n 2, 1, 0), (4, .invokevirtual 101, 3, 0), (7, .ifCond .ne 7, 3, 14), (10, .iconst 1, 1, 0), (11, .goto 20, 3, 31), (14, .aload_n 0, 1, 0), (15, .iload_n 1, 1, 0), (16, .iload_n 2, 1, 0), (17, .invokestatic 105, 3, 0)]
theorem mk73_0 : (mc73_0).all (m_okI prog_8_method_8_code) = true := by decide +kernel
def mc73_1 : List (Nat × Instr × Nat × Nat) := [(20, .invokevirtual 109, 3, 0), (23, .ifCond .eq 7, 3, 30), (26, .iconst 2, 1, 0), (27, .goto 4, 3, 31), (30, .iconst 0, 1, 0), (31, .invokevirtual 113, 3, 0), (34, .ifCond .eq 5, 3, 39), (37, .iconst 0, 1, 0), (38, .ireturn, 1, 0), (39, .iload_n 1, 1, 0), (40, .iload_n 2, 1, 0), (41, .invokestatic 105, 3, 0)]
theorem mk73_1 : (mc73_1).all (m_okI prog_8_method_8_code) = true := by decide +kernel
def mc73_2 : List (Nat × Instr × Nat × Nat) := [(44, .istore 4, 2, 0), (46, .aload_n 0, 1, 0), (47, .getfield 7, 3, 0), (50, .iload 4, 2, 0), (52, .baload, 1, 0), (53, .istore 5, 2, 0), (55, .aload_n 0, 1, 0), (56, .getfield 7, 3, 0), (59, .iload 4, 2, 0), (61, .iload_n 3, 1, 0), (62, .bastore, 1, 0), (63, .aload_n 0, 1, 0)]
theorem mk73_2 : (mc73_2).all (m_okI prog_8_method_8_code) = true := by decide +kernel
def mc73_3 : List (Nat × Instr × Nat × Nat) := [(64, .getfield 13, 3, 0), (67, .iload 4, 2, 0), (69, .iload_n 3, 1, 0), (70, .ifCond .eq 7, 3, 77), (73, .iconst (-1), 1, 0), (74, .goto 10, 3, 84), (77, .aload_n 0, 1, 0), (78, .getfield 13, 3, 0), (81, .iload 4, 2, 0), (83, .iaload, 1, 0), (84, .iastore, 1, 0), (85, .aload_n 0, 1, 0)]
theorem mk73_3 : (mc73_3).all (m_okI prog_8_method_8_code) = true := by decide +kernel
def mc73_4 : List (Nat × Instr × Nat × Nat) := [(86, .getfield 17, 3, 0), (89, .iload 4, 2, 0), (91, .iload_n 3, 1, 0), (92, .ifCond .eq 7, 3, 99), (95, .iconst 0, 1, 0), (96, .goto 10, 3, 106), (99, .aload_n 0, 1, 0), (100, .getfield 17, 3, 0), (103, .iload 4, 2, 0), (105, .iaload, 1, 0), (106, .iastore, 1, 0), (107, .aload_n 0, 1, 0)]
theorem mk73_4 : (mc73_4).all (m_okI prog_8_method_8_code) = true := by decide +kernel
def mc73_5 : List (Nat × Instr × Nat × Nat) := [(108, .invokevirtual 116, 3, 0), (111, .iload 5, 2, 0), (113, .ireturn, 1, 0)]
theorem mk73_5 : (mc73_5).all (m_okI prog_8_method_8_code) = true := by decide +kernel
def mc73 : List (Nat × List (Nat × Instr × Nat × Nat)) := [(18, mc73_0), (42, mc73_1), (64, mc73_2), (86, mc73_3), (108, mc73_4), (114, mc73_5)]
theorem mk73 : ∀ c ∈ mc73, c.2.all (m_okI prog_8_method_8_code) = true := by
  simp only [mc73, List.forall_mem_cons, List.not_mem_nil, false_implies, implies_true, and_true]
  exact ⟨mk73_0, mk73_1, mk73_2, mk73_3, mk73_4, mk73_5⟩
/-- EscapeCellsModel.exit(III)I -/
def mc74_0 : List (Nat × Instr × Nat × Nat) := [(0, .aload_n 0, 1, 0), (1, .iload_n 1, 1, 0), (2, .iload_n 2, 1, 0), (3, .invokevirtual 101, 3, 0), (6, .ifCond .eq 17, 3, 23), (9, .iload_n 3, 1, 0), (10, .ifCond .le 13, 3, 23), (13, .iload_n 3, 1, 0), (14, .bipush 6, 2, 0), (16, .if_icmp .ge 7, 3, 23), (19, .iconst 1, 1, 0), (20, .goto 4, 3, 24)]
theorem mk74_0 : (mc74_0).all (m_okI prog_8_method_9_code) = true := by decide +kernel
def mc74_1 : List (Nat × Instr × Nat × Nat) := [(23, .iconst 0, 1, 0), (24, .istore 4, 2, 0), (26, .iload 4, 2, 0), (28, .ifCond .eq 11, 3, 39), (31, .iload_n 1, 1, 0), (32, .iload_n 2, 1, 0), (33, .invokestatic 105, 3, 0), (36, .goto 4, 3, 40), (39, .iconst 0, 1, 0), (40, .istore 5, 2, 0), (42, .iload 4, 2, 0), (44, .ifCond .eq 45, 3, 89)]
theorem mk74_1 : (mc74_1).all (m_okI prog_8_method_9_code) = true := by decide +kernel
def mc74_2 : List (Nat × Instr × Nat × Nat) := [(47, .aload_n 0, 1, 0), (48, .getfield 7, 3, 0), (51, .iload 5, 2, 0), (53, .baload, 1, 0), (54, .ifCond .ne 35, 3, 89), (57, .aload_n 0, 1, 0), (58, .iload 5, 2, 0), (60, .invokevirtual 109, 3, 0), (63, .ifCond .ne 26, 3, 89), (66, .aload_n 0, 1, 0), (67, .getfield 13, 3, 0), (70, .iload 5, 2, 0)]
theorem mk74_2 : (mc74_2).all (m_okI prog_8_method_9_code) = true := by decide +kernel
def mc74_3 : List (Nat × Instr × Nat × Nat) := [(72, .iaload, 1, 0), (73, .ifCond .ge 12, 3, 85), (76, .aload_n 0, 1, 0), (77, .getfield 119, 3, 0), (80, .bipush 8, 2, 0), (82, .if_icmp .ge 7, 3, 89), (85, .iconst 1, 1, 0), (86, .goto 4, 3, 90), (89, .iconst 0, 1, 0), (90, .istore 6, 2, 0), (92, .aload_n 0, 1, 0), (93, .iload 4, 2, 0)]
theorem mk74_3 : (mc74_3).all (m_okI prog_8_method_9_code) = true := by decide +kernel
def mc74_4 : List (Nat × Instr × Nat × Nat) := [(95, .ifCond .ne 7, 3, 102), (98, .iconst 1, 1, 0), (99, .goto 13, 3, 112), (102, .iload 6, 2, 0), (104, .ifCond .ne 7, 3, 111), (107, .iconst 2, 1, 0), (108, .goto 4, 3, 112), (111, .iconst 0, 1, 0), (112, .invokevirtual 113, 3, 0), (115, .ifCond .eq 5, 3, 120), (118, .iconst 0, 1, 0), (119, .ireturn, 1, 0)]
theorem mk74_4 : (mc74_4).all (m_okI prog_8_method_9_code) = true := by decide +kernel
def mc74_5 : List (Nat × Instr × Nat × Nat) := [(120, .aload_n 0, 1, 0), (121, .getfield 13, 3, 0), (124, .iload 5, 2, 0), (126, .iaload, 1, 0), (127, .ifCond .ge 35, 3, 162), (130, .aload_n 0, 1, 0), (131, .getfield 13, 3, 0), (134, .iload 5, 2, 0), (136, .aload_n 0, 1, 0), (137, .getfield 119, 3, 0), (140, .iastore, 1, 0), (141, .aload_n 0, 1, 0)]
theorem mk74_5 : (mc74_5).all (m_okI prog_8_method_9_code) = true := by decide +kernel
def mc74_6 : List (Nat × Instr × Nat × Nat) := [(142, .getfield 23, 3, 0), (145, .aload_n 0, 1, 0), (146, .getfield 119, 3, 0), (149, .iload 5, 2, 0), (151, .iastore, 1, 0), (152, .aload_n 0, 1, 0), (153, .dup, 1, 0), (154, .getfield 119, 3, 0), (157, .iconst 1, 1, 0), (158, .iadd, 1, 0), (159, .putfield 119, 3, 0), (162, .aload_n 0, 1, 0)]
theorem mk74_6 : (mc74_6).all (m_okI prog_8_method_9_code) = true := by decide +kernel
def mc74_7 : List (Nat × Instr × Nat × Nat) := [(163, .getfield 17, 3, 0), (166, .iload 5, 2, 0), (168, .iload_n 3, 1, 0), (169, .iastore, 1, 0), (170, .aload_n 0, 1, 0), (171, .invokevirtual 116, 3, 0), (174, .aload_n 0, 1, 0), (175, .getfield 13, 3, 0), (178, .iload 5, 2, 0), (180, .iaload, 1, 0), (181, .ireturn, 1, 0)]
theorem mk74_7 : (mc74_7).all (m_okI prog_8_method_9_code) = true := by decide +kernel
def mc74 : List (Nat × List (Nat × Instr × Nat × Nat)) := [(21, mc74_0), (45, mc74_1), (71, mc74_2), (94, mc74_3), (120, mc74_4), (142, mc74_5), (163, mc74_6), (182, mc74_7)]
theorem mk74 : ∀ c ∈ mc74, c.2.all (m_okI prog_8_method_9_code) = true := by
  simp only [mc74, List.forall_mem_cons, List.not_mem_nil, false_implies, implies_true, and_true]
  exact ⟨mk74_0, mk74_1, mk74_2, mk74_3, mk74_4, mk74_5, mk74_6, mk74_7⟩
/-- EscapeCellsModel.door(III)V -/
def mc75_0 : List (Nat × Instr × Nat × Nat) := [(0, .aload_n 0, 1, 0), (1, .iload_n 1, 1, 0), (2, .iload_n 2, 1, 0), (3, .invokevirtual 101, 3, 0), (6, .ifCond .eq 17, 3, 23), (9, .iload_n 3, 1, 0), (10, .ifCond .le 13, 3, 23), (13, .iload_n 3, 1, 0), (14, .bipush 6, 2, 0), (16, .if_icmp .ge 7, 3, 23), (19, .iconst 1, 1, 0), (20, .goto 4, 3, 24)]
theorem mk75_0 : (mc75_0).all (m_okI prog_8_method_10_code) = true := by decide +kernel
def mc75_1 : List (Nat × Instr × Nat × Nat) := [(23, .iconst 0, 1, 0), (24, .istore 4, 2, 0), (26, .iload 4, 2, 0), (28, .ifCond .eq 11, 3, 39), (31, .iload_n 1, 1, 0), (32, .iload_n 2, 1, 0), (33, .invokestatic 105, 3, 0), (36, .goto 4, 3, 40), (39, .iconst 0, 1, 0), (40, .istore 5, 2, 0), (42, .aload_n 0, 1, 0), (43, .iload 4, 2, 0)]
theorem mk75_1 : (mc75_1).all (m_okI prog_8_method_10_code) = true := by decide +kernel
def mc75_2 : List (Nat × Instr × Nat × Nat) := [(45, .ifCond .ne 7, 3, 52), (48, .iconst 1, 1, 0), (49, .goto 28, 3, 77), (52, .aload_n 0, 1, 0), (53, .getfield 7, 3, 0), (56, .iload 5, 2, 0), (58, .baload, 1, 0), (59, .ifCond .ne 13, 3, 72), (62, .aload_n 0, 1, 0), (63, .getfield 13, 3, 0), (66, .iload 5, 2, 0), (68, .iaload, 1, 0)]
theorem mk75_2 : (mc75_2).all (m_okI prog_8_method_10_code) = true := by decide +kernel
def mc75_3 : List (Nat × Instr × Nat × Nat) := [(69, .ifCond .lt 7, 3, 76), (72, .iconst 2, 1, 0), (73, .goto 4, 3, 77), (76, .iconst 0, 1, 0), (77, .invokevirtual 113, 3, 0), (80, .ifCond .ne 15, 3, 95), (83, .aload_n 0, 1, 0), (84, .getfield 17, 3, 0), (87, .iload 5, 2, 0), (89, .iload_n 3, 1, 0), (90, .iastore, 1, 0), (91, .aload_n 0, 1, 0)]
theorem mk75_3 : (mc75_3).all (m_okI prog_8_method_10_code) = true := by decide +kernel
def mc75_4 : List (Nat × Instr × Nat × Nat) := [(92, .invokevirtual 116, 3, 0), (95, .return_, 1, 0)]
theorem mk75_4 : (mc75_4).all (m_okI prog_8_method_10_code) = true := by decide +kernel
def mc75 : List (Nat × List (Nat × Instr × Nat × Nat)) := [(21, mc75_0), (44, mc75_1), (69, mc75_2), (92, mc75_3), (96, mc75_4)]
theorem mk75 : ∀ c ∈ mc75, c.2.all (m_okI prog_8_method_10_code) = true := by
  simp only [mc75, List.forall_mem_cons, List.not_mem_nil, false_implies, implies_true, and_true]
  exact ⟨mk75_0, mk75_1, mk75_2, mk75_3, mk75_4⟩
/-- EscapeCellsModel.smoke(III)I -/
def mc76_0 : List (Nat × Instr × Nat × Nat) := [(0, .aload_n 0, 1, 0), (1, .aload_n 0, 1, 0), (2, .iload_n 1, 1, 0), (3, .iload_n 2, 1, 0), (4, .invokevirtual 101, 3, 0), (7, .ifCond .eq 15, 3, 22), (10, .iload_n 3, 1, 0), (11, .iconst (-1), 1, 0), (12, .if_icmp .lt 10, 3, 22), (15, .iload_n 3, 1, 0), (16, .sipush 3600, 3, 0), (19, .if_icmp .le 7, 3, 26)]
theorem mk76_0 : (mc76_0).all (m_okI prog_8_method_11_code) = true := by decide +kernel
def mc76_1 : List (Nat × Instr × Nat × Nat) := [(22, .iconst 1, 1, 0), (23, .goto 4, 3, 27), (26, .iconst 0, 1, 0), (27, .invokevirtual 113, 3, 0), (30, .ifCond .eq 5, 3, 35), (33, .iconst 0, 1, 0), (34, .ireturn, 1, 0), (35, .aload_n 0, 1, 0), (36, .getfield 20, 3, 0), (39, .iload_n 1, 1, 0), (40, .iload_n 2, 1, 0), (41, .invokestatic 105, 3, 0)]
theorem mk76_1 : (mc76_1).all (m_okI prog_8_method_11_code) = true := by decide +kernel
def mc76_2 : List (Nat × Instr × Nat × Nat) := [(44, .iaload, 1, 0), (45, .istore 4, 2, 0), (47, .aload_n 0, 1, 0), (48, .getfield 20, 3, 0), (51, .iload_n 1, 1, 0), (52, .iload_n 2, 1, 0), (53, .invokestatic 105, 3, 0), (56, .iload_n 3, 1, 0), (57, .iastore, 1, 0), (58, .aload_n 0, 1, 0), (59, .invokevirtual 116, 3, 0), (62, .iload 4, 2, 0)]
theorem mk76_2 : (mc76_2).all (m_okI prog_8_method_11_code) = true := by decide +kernel
def mc76_3 : List (Nat × Instr × Nat × Nat) := [(64, .ireturn, 1, 0)]
theorem mk76_3 : (mc76_3).all (m_okI prog_8_method_11_code) = true := by decide +kernel
def mc76 : List (Nat × List (Nat × Instr × Nat × Nat)) := [(20, mc76_0), (42, mc76_1), (63, mc76_2), (65, mc76_3)]
theorem mk76 : ∀ c ∈ mc76, c.2.all (m_okI prog_8_method_11_code) = true := by
  simp only [mc76, List.forall_mem_cons, List.not_mem_nil, false_implies, implies_true, and_true]
  exact ⟨mk76_0, mk76_1, mk76_2, mk76_3⟩
end
section
/-- EscapeCellsModel.person(IIII)I -/
def mc77_0 : List (Nat × Instr × Nat × Nat) := [(0, .aload_n 0, 1, 0), (1, .iload_n 1, 1, 0), (2, .iload_n 2, 1, 0), (3, .invokevirtual 101, 3, 0), (6, .ifCond .eq 30, 3, 36), (9, .iload_n 3, 1, 0), (10, .ifCond .le 26, 3, 36), (13, .iload_n 3, 1, 0), (14, .bipush 6, 2, 0), (16, .if_icmp .ge 20, 3, 36), (19, .iload 4, 2, 0), (21, .ifCond .lt 15, 3, 36)]
theorem mk77_0 : (mc77_0).all (m_okI prog_8_method_12_code) = true := by decide +kernel
def mc77_1 : List (Nat × Instr × Nat × Nat) := [(24, .iload 4, 2, 0), (26, .sipush 600, 3, 0), (29, .if_icmp .gt 7, 3, 36), (32, .iconst 1, 1, 0), (33, .goto 4, 3, 37), (36, .iconst 0, 1, 0), (37, .istore 5, 2, 0), (39, .iload 5, 2, 0), (41, .ifCond .eq 11, 3, 52), (44, .iload_n 1, 1, 0), (45, .iload_n 2, 1, 0), (46, .invokestatic 105, 3, 0)]
theorem mk77_1 : (mc77_1).all (m_okI prog_8_method_12_code) = true := by decide +kernel
def mc77_2 : List (Nat × Instr × Nat × Nat) := [(49, .goto 4, 3, 53), (52, .iconst 0, 1, 0), (53, .istore 6, 2, 0), (55, .aload_n 0, 1, 0), (56, .iload 5, 2, 0), (58, .ifCond .ne 7, 3, 65), (61, .iconst 1, 1, 0), (62, .goto 46, 3, 108), (65, .aload_n 0, 1, 0), (66, .getfield 7, 3, 0), (69, .iload 6, 2, 0), (71, .baload, 1, 0)]
theorem mk77_2 : (mc77_2).all (m_okI prog_8_method_12_code) = true := by decide +kernel
def mc77_3 : List (Nat × Instr × Nat × Nat) := [(72, .ifCond .ne 31, 3, 103), (75, .aload_n 0, 1, 0), (76, .getfield 13, 3, 0), (79, .iload 6, 2, 0), (81, .iaload, 1, 0), (82, .ifCond .ge 21, 3, 103), (85, .aload_n 0, 1, 0), (86, .iload 6, 2, 0), (88, .invokevirtual 109, 3, 0), (91, .ifCond .ne 12, 3, 103), (94, .aload_n 0, 1, 0), (95, .getfield 91, 3, 0)]
theorem mk77_3 : (mc77_3).all (m_okI prog_8_method_12_code) = true := by decide +kernel
def mc77_4 : List (Nat × Instr × Nat × Nat) := [(98, .bipush 60, 2, 0), (100, .if_icmp .ne 7, 3, 107), (103, .iconst 2, 1, 0), (104, .goto 4, 3, 108), (107, .iconst 0, 1, 0), (108, .invokevirtual 113, 3, 0), (111, .ifCond .eq 5, 3, 116), (114, .iconst 0, 1, 0), (115, .ireturn, 1, 0), (116, .aload_n 0, 1, 0), (117, .getfield 26, 3, 0), (120, .aload_n 0, 1, 0)]
theorem mk77_4 : (mc77_4).all (m_okI prog_8_method_12_code) = true := by decide +kernel
def mc77_5 : List (Nat × Instr × Nat × Nat) := [(121, .getfield 91, 3, 0), (124, .iload 6, 2, 0), (126, .iastore, 1, 0), (127, .aload_n 0, 1, 0), (128, .getfield 29, 3, 0), (131, .aload_n 0, 1, 0), (132, .getfield 91, 3, 0), (135, .iload_n 3, 1, 0), (136, .iastore, 1, 0), (137, .aload_n 0, 1, 0), (138, .getfield 32, 3, 0), (141, .aload_n 0, 1, 0)]
theorem mk77_5 : (mc77_5).all (m_okI prog_8_method_12_code) = true := by decide +kernel
def mc77_6 : List (Nat × Instr × Nat × Nat) := [(142, .getfield 91, 3, 0), (145, .iload 4, 2, 0), (147, .iastore, 1, 0), (148, .aload_n 0, 1, 0), (149, .getfield 35, 3, 0), (152, .aload_n 0, 1, 0), (153, .getfield 91, 3, 0), (156, .iconst (-1), 1, 0), (157, .iastore, 1, 0), (158, .aload_n 0, 1, 0), (159, .dup, 1, 0), (160, .getfield 91, 3, 0)]
theorem mk77_6 : (mc77_6).all (m_okI prog_8_method_12_code) = true := by decide +kernel
def mc77_7 : List (Nat × Instr × Nat × Nat) := [(163, .iconst 1, 1, 0), (164, .iadd, 1, 0), (165, .putfield 91, 3, 0), (168, .aload_n 0, 1, 0), (169, .invokevirtual 116, 3, 0), (172, .aload_n 0, 1, 0), (173, .getfield 91, 3, 0), (176, .iconst 1, 1, 0), (177, .isub, 1, 0), (178, .ireturn, 1, 0)]
theorem mk77_7 : (mc77_7).all (m_okI prog_8_method_12_code) = true := by decide +kernel
def mc77 : List (Nat × List (Nat × Instr × Nat × Nat)) := [(22, mc77_0), (47, mc77_1), (72, mc77_2), (96, mc77_3), (121, mc77_4), (142, mc77_5), (161, mc77_6), (179, mc77_7)]
theorem mk77 : ∀ c ∈ mc77, c.2.all (m_okI prog_8_method_12_code) = true := by
  simp only [mc77, List.forall_mem_cons, List.not_mem_nil, false_implies, implies_true, and_true]
  exact ⟨mk77_0, mk77_1, mk77_2, mk77_3, mk77_4, mk77_5, mk77_6, mk77_7⟩
/-- EscapeCellsModel.habit(II)I -/
def mc78_0 : List (Nat × Instr × Nat × Nat) := [(0, .aload_n 0, 1, 0), (1, .iload_n 1, 1, 0), (2, .ifCond .lt 24, 3, 26), (5, .iload_n 1, 1, 0), (6, .aload_n 0, 1, 0), (7, .getfield 91, 3, 0), (10, .if_icmp .ge 16, 3, 26), (13, .iload_n 2, 1, 0), (14, .iconst (-1), 1, 0), (15, .if_icmp .lt 11, 3, 26), (18, .iload_n 2, 1, 0), (19, .aload_n 0, 1, 0)]
theorem mk78_0 : (mc78_0).all (m_okI prog_8_method_13_code) = true := by decide +kernel
def mc78_1 : List (Nat × Instr × Nat × Nat) := [(20, .getfield 119, 3, 0), (23, .if_icmp .lt 7, 3, 30), (26, .iconst 1, 1, 0), (27, .goto 4, 3, 31), (30, .iconst 0, 1, 0), (31, .invokevirtual 113, 3, 0), (34, .ifCond .eq 5, 3, 39), (37, .iconst 0, 1, 0), (38, .ireturn, 1, 0), (39, .aload_n 0, 1, 0), (40, .getfield 35, 3, 0), (43, .iload_n 1, 1, 0)]
theorem mk78_1 : (mc78_1).all (m_okI prog_8_method_13_code) = true := by decide +kernel
def mc78_2 : List (Nat × Instr × Nat × Nat) := [(44, .iaload, 1, 0), (45, .istore_n 3, 1, 0), (46, .aload_n 0, 1, 0), (47, .getfield 35, 3, 0), (50, .iload_n 1, 1, 0), (51, .iload_n 2, 1, 0), (52, .iastore, 1, 0), (53, .aload_n 0, 1, 0), (54, .invokevirtual 116, 3, 0), (57, .iload_n 3, 1, 0), (58, .ireturn, 1, 0)]
theorem mk78_2 : (mc78_2).all (m_okI prog_8_method_13_code) = true := by decide +kernel
def mc78 : List (Nat × List (Nat × Instr × Nat × Nat)) := [(20, mc78_0), (44, mc78_1), (59, mc78_2)]
theorem mk78 : ∀ c ∈ mc78, c.2.all (m_okI prog_8_method_13_code) = true := by
  simp only [mc78, List.forall_mem_cons, List.not_mem_nil, false_implies, implies_true, and_true]
  exact ⟨mk78_0, mk78_1, mk78_2⟩
/-- EscapeCellsModel.beside(II)I -/
def mc79_0 : List (Nat × Instr × Nat × Nat) := [(0, .iload_n 1, 1, 0), (1, .bipush 24, 2, 0), (3, .irem, 1, 0), (4, .iload_n 2, 1, 0), (5, .ifCond .ne 7, 3, 12), (8, .iconst 1, 1, 0), (9, .goto 13, 3, 22), (12, .iload_n 2, 1, 0), (13, .iconst 1, 1, 0), (14, .if_icmp .ne 7, 3, 21), (17, .iconst (-1), 1, 0), (18, .goto 4, 3, 22)]
theorem mk79_0 : (mc79_0).all (m_okI prog_8_method_14_code) = true := by decide +kernel
def mc79_1 : List (Nat × Instr × Nat × Nat) := [(21, .iconst 0, 1, 0), (22, .iadd, 1, 0), (23, .istore_n 3, 1, 0), (24, .iload_n 1, 1, 0), (25, .bipush 24, 2, 0), (27, .idiv, 1, 0), (28, .iload_n 2, 1, 0), (29, .iconst 2, 1, 0), (30, .if_icmp .ne 7, 3, 37), (33, .iconst 1, 1, 0), (34, .goto 13, 3, 47), (37, .iload_n 2, 1, 0)]
theorem mk79_1 : (mc79_1).all (m_okI prog_8_method_14_code) = true := by decide +kernel
def mc79_2 : List (Nat × Instr × Nat × Nat) := [(38, .iconst 3, 1, 0), (39, .if_icmp .ne 7, 3, 46), (42, .iconst (-1), 1, 0), (43, .goto 4, 3, 47), (46, .iconst 0, 1, 0), (47, .iadd, 1, 0), (48, .istore 4, 2, 0), (50, .aload_n 0, 1, 0), (51, .iload_n 3, 1, 0), (52, .iload 4, 2, 0), (54, .invokevirtual 101, 3, 0), (57, .ifCond .eq 12, 3, 69)]
theorem mk79_2 : (mc79_2).all (m_okI prog_8_method_14_code) = true := by decide +kernel
def mc79_3 : List (Nat × Instr × Nat × Nat) := [(60, .iload_n 3, 1, 0), (61, .iload 4, 2, 0), (63, .invokestatic 105, 3, 0), (66, .goto 4, 3, 70), (69, .iconst (-1), 1, 0), (70, .ireturn, 1, 0)]
theorem mk79_3 : (mc79_3).all (m_okI prog_8_method_14_code) = true := by decide +kernel
def mc79 : List (Nat × List (Nat × Instr × Nat × Nat)) := [(19, mc79_0), (38, mc79_1), (58, mc79_2), (71, mc79_3)]
theorem mk79 : ∀ c ∈ mc79, c.2.all (m_okI prog_8_method_14_code) = true := by
  simp only [mc79, List.forall_mem_cons, List.not_mem_nil, false_implies, implies_true, and_true]
  exact ⟨mk79_0, mk79_1, mk79_2, mk79_3⟩
/-- EscapeCellsModel.isGoal(II)Z -/
def mc80_0 : List (Nat × Instr × Nat × Nat) := [(0, .iload_n 1, 1, 0), (1, .bipush 8, 2, 0), (3, .if_icmp .ne 20, 3, 23), (6, .aload_n 0, 1, 0), (7, .getfield 13, 3, 0), (10, .iload_n 2, 1, 0), (11, .iaload, 1, 0), (12, .ifCond .lt 7, 3, 19), (15, .iconst 1, 1, 0), (16, .goto 22, 3, 38), (19, .iconst 0, 1, 0), (20, .goto 18, 3, 38)]
theorem mk80_0 : (mc80_0).all (m_okI prog_8_method_15_code) = true := by decide +kernel
def mc80_1 : List (Nat × Instr × Nat × Nat) := [(23, .aload_n 0, 1, 0), (24, .getfield 13, 3, 0), (27, .iload_n 2, 1, 0), (28, .iaload, 1, 0), (29, .iload_n 1, 1, 0), (30, .if_icmp .ne 7, 3, 37), (33, .iconst 1, 1, 0), (34, .goto 4, 3, 38), (37, .iconst 0, 1, 0), (38, .ireturn, 1, 0)]
theorem mk80_1 : (mc80_1).all (m_okI prog_8_method_15_code) = true := by decide +kernel
def mc80 : List (Nat × List (Nat × Instr × Nat × Nat)) := [(21, mc80_0), (39, mc80_1)]
theorem mk80 : ∀ c ∈ mc80, c.2.all (m_okI prog_8_method_15_code) = true := by
  simp only [mc80, List.forall_mem_cons, List.not_mem_nil, false_implies, implies_true, and_true]
  exact ⟨mk80_0, mk80_1⟩
/-- EscapeCellsModel.find(I)V -/
def mc81_0 : List (Nat × Instr × Nat × Nat) := [(0, .iconst 0, 1, 0), (1, .istore_n 2, 1, 0), (2, .iconst 0, 1, 0), (3, .istore_n 3, 1, 0), (4, .iload_n 3, 1, 0), (5, .sipush 576, 3, 0), (8, .if_icmp .ge 54, 3, 62), (11, .aload_n 0, 1, 0), (12, .iload_n 1, 1, 0), (13, .iload_n 3, 1, 0), (14, .invokevirtual 122, 3, 0), (17, .istore 4, 2, 0)]
theorem mk81_0 : (mc81_0).all (m_okI prog_8_method_16_code) = true := by decide +kernel
def mc81_1 : List (Nat × Instr × Nat × Nat) := [(19, .aload_n 0, 1, 0), (20, .getfield 38, 3, 0), (23, .sipush 576, 3, 0), (26, .iload_n 1, 1, 0), (27, .imul, 1, 0), (28, .iload_n 3, 1, 0), (29, .iadd, 1, 0), (30, .iload 4, 2, 0), (32, .ifCond .eq 7, 3, 39), (35, .iconst 0, 1, 0), (36, .goto 4, 3, 40), (39, .iconst (-1), 1, 0)]
theorem mk81_1 : (mc81_1).all (m_okI prog_8_method_16_code) = true := by decide +kernel
def mc81_2 : List (Nat × Instr × Nat × Nat) := [(40, .iastore, 1, 0), (41, .iload 4, 2, 0), (43, .ifCond .eq 13, 3, 56), (46, .aload_n 0, 1, 0), (47, .getfield 41, 3, 0), (50, .iload_n 2, 1, 0), (51, .iload_n 3, 1, 0), (52, .iastore, 1, 0), (53, .iinc 2 1, 3, 0), (56, .iinc 3 1, 3, 0), (59, .goto (-55), 3, 4), (62, .iconst 0, 1, 0)]
theorem mk81_2 : (mc81_2).all (m_okI prog_8_method_16_code) = true := by decide +kernel
def mc81_3 : List (Nat × Instr × Nat × Nat) := [(63, .istore_n 3, 1, 0), (64, .iload_n 3, 1, 0), (65, .iload_n 2, 1, 0), (66, .if_icmp .ge 112, 3, 178), (69, .iconst 0, 1, 0), (70, .istore 4, 2, 0), (72, .iload 4, 2, 0), (74, .iconst 4, 1, 0), (75, .if_icmp .ge 97, 3, 172), (78, .aload_n 0, 1, 0), (79, .aload_n 0, 1, 0), (80, .getfield 41, 3, 0)]
theorem mk81_3 : (mc81_3).all (m_okI prog_8_method_16_code) = true := by decide +kernel
def mc81_4 : List (Nat × Instr × Nat × Nat) := [(83, .iload_n 3, 1, 0), (84, .iaload, 1, 0), (85, .iload 4, 2, 0), (87, .invokevirtual 125, 3, 0), (90, .istore 5, 2, 0), (92, .iload 5, 2, 0), (94, .ifCond .lt 72, 3, 166), (97, .aload_n 0, 1, 0), (98, .getfield 7, 3, 0), (101, .iload 5, 2, 0), (103, .baload, 1, 0), (104, .ifCond .ne 62, 3, 166)]
theorem mk81_4 : (mc81_4).all (m_okI prog_8_method_16_code) = true := by decide +kernel
def mc81_5 : List (Nat × Instr × Nat × Nat) := [(107, .aload_n 0, 1, 0), (108, .getfield 38, 3, 0), (111, .sipush 576, 3, 0), (114, .iload_n 1, 1, 0), (115, .imul, 1, 0), (116, .iload 5, 2, 0), (118, .iadd, 1, 0), (119, .iaload, 1, 0), (120, .ifCond .ge 46, 3, 166), (123, .aload_n 0, 1, 0), (124, .getfield 38, 3, 0), (127, .sipush 576, 3, 0)]
theorem mk81_5 : (mc81_5).all (m_okI prog_8_method_16_code) = true := by decide +kernel
def mc81_6 : List (Nat × Instr × Nat × Nat) := [(130, .iload_n 1, 1, 0), (131, .imul, 1, 0), (132, .iload 5, 2, 0), (134, .iadd, 1, 0), (135, .aload_n 0, 1, 0), (136, .getfield 38, 3, 0), (139, .sipush 576, 3, 0), (142, .iload_n 1, 1, 0), (143, .imul, 1, 0), (144, .aload_n 0, 1, 0), (145, .getfield 41, 3, 0), (148, .iload_n 3, 1, 0)]
theorem mk81_6 : (mc81_6).all (m_okI prog_8_method_16_code) = true := by decide +kernel
def mc81_7 : List (Nat × Instr × Nat × Nat) := [(149, .iaload, 1, 0), (150, .iadd, 1, 0), (151, .iaload, 1, 0), (152, .iconst 1, 1, 0), (153, .iadd, 1, 0), (154, .iastore, 1, 0), (155, .aload_n 0, 1, 0), (156, .getfield 41, 3, 0), (159, .iload_n 2, 1, 0), (160, .iload 5, 2, 0), (162, .iastore, 1, 0), (163, .iinc 2 1, 3, 0)]
theorem mk81_7 : (mc81_7).all (m_okI prog_8_method_16_code) = true := by decide +kernel
def mc81_8 : List (Nat × Instr × Nat × Nat) := [(166, .iinc 4 1, 3, 0), (169, .goto (-97), 3, 72), (172, .iinc 3 1, 3, 0), (175, .goto (-111), 3, 64), (178, .return_, 1, 0)]
theorem mk81_8 : (mc81_8).all (m_okI prog_8_method_16_code) = true := by decide +kernel
def mc81 : List (Nat × List (Nat × Instr × Nat × Nat)) := [(18, mc81_0), (40, mc81_1), (63, mc81_2), (81, mc81_3), (105, mc81_4), (128, mc81_5), (149, mc81_6), (164, mc81_7), (179, mc81_8)]
theorem mk81 : ∀ c ∈ mc81, c.2.all (m_okI prog_8_method_16_code) = true := by
  simp only [mc81, List.forall_mem_cons, List.not_mem_nil, false_implies, implies_true, and_true]
  exact ⟨mk81_0, mk81_1, mk81_2, mk81_3, mk81_4, mk81_5, mk81_6, mk81_7, mk81_8⟩
/-- EscapeCellsModel.learn()V -/
def mc82_0 : List (Nat × Instr × Nat × Nat) := [(0, .iconst 0, 1, 0), (1, .istore_n 1, 1, 0), (2, .iload_n 1, 1, 0), (3, .bipush 8, 2, 0), (5, .if_icmp .gt 21, 3, 26), (8, .aload_n 0, 1, 0), (9, .getfield 94, 3, 0), (12, .ifCond .ne 14, 3, 26), (15, .aload_n 0, 1, 0), (16, .iload_n 1, 1, 0), (17, .invokevirtual 128, 3, 0), (20, .iinc 1 1, 3, 0)]
theorem mk82_0 : (mc82_0).all (m_okI prog_8_method_17_code) = true := by decide +kernel
def mc82_1 : List (Nat × Instr × Nat × Nat) := [(23, .goto (-21), 3, 2), (26, .aload_n 0, 1, 0), (27, .iconst 1, 1, 0), (28, .putfield 94, 3, 0), (31, .return_, 1, 0)]
theorem mk82_1 : (mc82_1).all (m_okI prog_8_method_17_code) = true := by decide +kernel
def mc82 : List (Nat × List (Nat × Instr × Nat × Nat)) := [(21, mc82_0), (32, mc82_1)]
theorem mk82 : ∀ c ∈ mc82, c.2.all (m_okI prog_8_method_17_code) = true := by
  simp only [mc82, List.forall_mem_cons, List.not_mem_nil, false_implies, implies_true, and_true]
  exact ⟨mk82_0, mk82_1⟩
/-- EscapeCellsModel.numberOf(II)I -/
def mc83_0 : List (Nat × Instr × Nat × Nat) := [(0, .aload_n 0, 1, 0), (1, .getfield 38, 3, 0), (4, .sipush 576, 3, 0), (7, .iload_n 1, 1, 0), (8, .imul, 1, 0), (9, .iload_n 2, 1, 0), (10, .iadd, 1, 0), (11, .iaload, 1, 0), (12, .ireturn, 1, 0)]
theorem mk83_0 : (mc83_0).all (m_okI prog_8_method_18_code) = true := by decide +kernel
def mc83 : List (Nat × List (Nat × Instr × Nat × Nat)) := [(13, mc83_0)]
theorem mk83 : ∀ c ∈ mc83, c.2.all (m_okI prog_8_method_18_code) = true := by
  simp only [mc83, List.forall_mem_cons, List.not_mem_nil, false_implies, implies_true, and_true]
  exact mk83_0
/-- EscapeCellsModel.ways()I -/
def mc84_0 : List (Nat × Instr × Nat × Nat) := [(0, .aload_n 0, 1, 0), (1, .iconst 0, 1, 0), (2, .putfield 88, 3, 0), (5, .aload_n 0, 1, 0), (6, .invokevirtual 132, 3, 0), (9, .iconst 0, 1, 0), (10, .istore_n 1, 1, 0), (11, .iconst 0, 1, 0), (12, .istore_n 2, 1, 0), (13, .iload_n 2, 1, 0), (14, .sipush 576, 3, 0), (17, .if_icmp .ge 27, 3, 44)]
theorem mk84_0 : (mc84_0).all (m_okI prog_8_method_19_code) = true := by decide +kernel
def mc84_1 : List (Nat × Instr × Nat × Nat) := [(20, .iload_n 1, 1, 0), (21, .aload_n 0, 1, 0), (22, .bipush 8, 2, 0), (24, .iload_n 2, 1, 0), (25, .invokevirtual 135, 3, 0), (28, .ifCond .lt 7, 3, 35), (31, .iconst 1, 1, 0), (32, .goto 4, 3, 36), (35, .iconst 0, 1, 0), (36, .iadd, 1, 0), (37, .istore_n 1, 1, 0), (38, .iinc 2 1, 3, 0)]
theorem mk84_1 : (mc84_1).all (m_okI prog_8_method_19_code) = true := by decide +kernel
def mc84_2 : List (Nat × Instr × Nat × Nat) := [(41, .goto (-28), 3, 13), (44, .iload_n 1, 1, 0), (45, .ireturn, 1, 0)]
theorem mk84_2 : (mc84_2).all (m_okI prog_8_method_19_code) = true := by decide +kernel
def mc84 : List (Nat × List (Nat × Instr × Nat × Nat)) := [(18, mc84_0), (39, mc84_1), (46, mc84_2)]
theorem mk84 : ∀ c ∈ mc84, c.2.all (m_okI prog_8_method_19_code) = true := by
  simp only [mc84, List.forall_mem_cons, List.not_mem_nil, false_implies, implies_true, and_true]
  exact ⟨mk84_0, mk84_1, mk84_2⟩
/-- EscapeCellsModel.walk(III)I -/
def mc85_0 : List (Nat × Instr × Nat × Nat) := [(0, .aload_n 0, 1, 0), (1, .aload_n 0, 1, 0), (2, .iload_n 1, 1, 0), (3, .iload_n 2, 1, 0), (4, .invokevirtual 101, 3, 0), (7, .ifCond .eq 16, 3, 23), (10, .iload_n 3, 1, 0), (11, .iconst (-1), 1, 0), (12, .if_icmp .lt 11, 3, 23), (15, .iload_n 3, 1, 0), (16, .aload_n 0, 1, 0), (17, .getfield 119, 3, 0)]
theorem mk85_0 : (mc85_0).all (m_okI prog_8_method_20_code) = true := by decide +kernel
def mc85_1 : List (Nat × Instr × Nat × Nat) := [(20, .if_icmp .lt 7, 3, 27), (23, .iconst 1, 1, 0), (24, .goto 4, 3, 28), (27, .iconst 0, 1, 0), (28, .invokevirtual 113, 3, 0), (31, .ifCond .eq 5, 3, 36), (34, .iconst 0, 1, 0), (35, .ireturn, 1, 0), (36, .aload_n 0, 1, 0), (37, .invokevirtual 132, 3, 0), (40, .aload_n 0, 1, 0), (41, .iload_n 3, 1, 0)]
theorem mk85_1 : (mc85_1).all (m_okI prog_8_method_20_code) = true := by decide +kernel
def mc85_2 : List (Nat × Instr × Nat × Nat) := [(42, .ifCond .ge 8, 3, 50), (45, .bipush 8, 2, 0), (47, .goto 4, 3, 51), (50, .iload_n 3, 1, 0), (51, .iload_n 1, 1, 0), (52, .iload_n 2, 1, 0), (53, .invokestatic 105, 3, 0), (56, .invokevirtual 135, 3, 0), (59, .ireturn, 1, 0)]
theorem mk85_2 : (mc85_2).all (m_okI prog_8_method_20_code) = true := by decide +kernel
def mc85 : List (Nat × List (Nat × Instr × Nat × Nat)) := [(18, mc85_0), (42, mc85_1), (60, mc85_2)]
theorem mk85 : ∀ c ∈ mc85, c.2.all (m_okI prog_8_method_20_code) = true := by
  simp only [mc85, List.forall_mem_cons, List.not_mem_nil, false_implies, implies_true, and_true]
  exact ⟨mk85_0, mk85_1, mk85_2⟩
/-- EscapeCellsModel.goal(I)I -/
def mc86_0 : List (Nat × Instr × Nat × Nat) := [(0, .aload_n 0, 1, 0), (1, .getfield 35, 3, 0), (4, .iload_n 1, 1, 0), (5, .iaload, 1, 0), (6, .ifCond .lt 26, 3, 32), (9, .aload_n 0, 1, 0), (10, .aload_n 0, 1, 0), (11, .getfield 35, 3, 0), (14, .iload_n 1, 1, 0), (15, .iaload, 1, 0), (16, .aload_n 0, 1, 0), (17, .getfield 63, 3, 0)]
theorem mk86_0 : (mc86_0).all (m_okI prog_8_method_21_code) = true := by decide +kernel
def mc86_1 : List (Nat × Instr × Nat × Nat) := [(20, .iload_n 1, 1, 0), (21, .iaload, 1, 0), (22, .invokevirtual 135, 3, 0), (25, .ifCond .lt 7, 3, 32), (28, .iconst 1, 1, 0), (29, .goto 4, 3, 33), (32, .iconst 0, 1, 0), (33, .istore_n 2, 1, 0), (34, .iload_n 2, 1, 0), (35, .ifCond .eq 12, 3, 47), (38, .aload_n 0, 1, 0), (39, .getfield 35, 3, 0)]
theorem mk86_1 : (mc86_1).all (m_okI prog_8_method_21_code) = true := by decide +kernel
def mc86_2 : List (Nat × Instr × Nat × Nat) := [(42, .iload_n 1, 1, 0), (43, .iaload, 1, 0), (44, .goto 5, 3, 49), (47, .bipush 8, 2, 0), (49, .ireturn, 1, 0)]
theorem mk86_2 : (mc86_2).all (m_okI prog_8_method_21_code) = true := by decide +kernel
def mc86 : List (Nat × List (Nat × Instr × Nat × Nat)) := [(18, mc86_0), (40, mc86_1), (50, mc86_2)]
theorem mk86 : ∀ c ∈ mc86, c.2.all (m_okI prog_8_method_21_code) = true := by
  simp only [mc86, List.forall_mem_cons, List.not_mem_nil, false_implies, implies_true, and_true]
  exact ⟨mk86_0, mk86_1, mk86_2⟩
/-- EscapeCellsModel.isBarred(II)Z -/
def mc87_0 : List (Nat × Instr × Nat × Nat) := [(0, .aload_n 0, 1, 0), (1, .getfield 20, 3, 0), (4, .iload_n 1, 1, 0), (5, .iaload, 1, 0), (6, .ifCond .lt 17, 3, 23), (9, .aload_n 0, 1, 0), (10, .getfield 20, 3, 0), (13, .iload_n 1, 1, 0), (14, .iaload, 1, 0), (15, .iload_n 2, 1, 0), (16, .if_icmp .gt 7, 3, 23), (19, .iconst 1, 1, 0)]
theorem mk87_0 : (mc87_0).all (m_okI prog_8_method_22_code) = true := by decide +kernel
def mc87_1 : List (Nat × Instr × Nat × Nat) := [(20, .goto 4, 3, 24), (23, .iconst 0, 1, 0), (24, .ireturn, 1, 0)]
theorem mk87_1 : (mc87_1).all (m_okI prog_8_method_22_code) = true := by decide +kernel
def mc87 : List (Nat × List (Nat × Instr × Nat × Nat)) := [(20, mc87_0), (25, mc87_1)]
theorem mk87 : ∀ c ∈ mc87, c.2.all (m_okI prog_8_method_22_code) = true := by
  simp only [mc87, List.forall_mem_cons, List.not_mem_nil, false_implies, implies_true, and_true]
  exact ⟨mk87_0, mk87_1⟩
/-- EscapeCellsModel.maySteps(II)Z -/
def mc88_0 : List (Nat × Instr × Nat × Nat) := [(0, .aload_n 0, 1, 0), (1, .getfield 53, 3, 0), (4, .iload_n 1, 1, 0), (5, .iaload, 1, 0), (6, .ifCond .ne 12, 3, 18), (9, .aload_n 0, 1, 0), (10, .getfield 32, 3, 0), (13, .iload_n 1, 1, 0), (14, .iaload, 1, 0), (15, .goto 22, 3, 37), (18, .aload_n 0, 1, 0), (19, .getfield 57, 3, 0)]
theorem mk88_0 : (mc88_0).all (m_okI prog_8_method_23_code) = true := by decide +kernel
def mc88_1 : List (Nat × Instr × Nat × Nat) := [(22, .sipush 600, 3, 0), (25, .iload_n 1, 1, 0), (26, .imul, 1, 0), (27, .aload_n 0, 1, 0), (28, .getfield 53, 3, 0), (31, .iload_n 1, 1, 0), (32, .iaload, 1, 0), (33, .iadd, 1, 0), (34, .iconst 1, 1, 0), (35, .isub, 1, 0), (36, .iaload, 1, 0), (37, .istore_n 3, 1, 0)]
theorem mk88_1 : (mc88_1).all (m_okI prog_8_method_23_code) = true := by decide +kernel
def mc88_2 : List (Nat × Instr × Nat × Nat) := [(38, .iload_n 2, 1, 0), (39, .aload_n 0, 1, 0), (40, .getfield 32, 3, 0), (43, .iload_n 1, 1, 0), (44, .iaload, 1, 0), (45, .if_icmp .le 19, 3, 64), (48, .iload_n 2, 1, 0), (49, .iload_n 3, 1, 0), (50, .isub, 1, 0), (51, .aload_n 0, 1, 0), (52, .getfield 29, 3, 0), (55, .iload_n 1, 1, 0)]
theorem mk88_2 : (mc88_2).all (m_okI prog_8_method_23_code) = true := by decide +kernel
def mc88_3 : List (Nat × Instr × Nat × Nat) := [(56, .iaload, 1, 0), (57, .if_icmp .lt 7, 3, 64), (60, .iconst 1, 1, 0), (61, .goto 4, 3, 65), (64, .iconst 0, 1, 0), (65, .ireturn, 1, 0)]
theorem mk88_3 : (mc88_3).all (m_okI prog_8_method_23_code) = true := by decide +kernel
def mc88 : List (Nat × List (Nat × Instr × Nat × Nat)) := [(20, mc88_0), (38, mc88_1), (56, mc88_2), (66, mc88_3)]
theorem mk88 : ∀ c ∈ mc88, c.2.all (m_okI prog_8_method_23_code) = true := by
  simp only [mc88, List.forall_mem_cons, List.not_mem_nil, false_implies, implies_true, and_true]
  exact ⟨mk88_0, mk88_1, mk88_2, mk88_3⟩
/-- EscapeCellsModel.nextOne(I)I -/
def mc89_0 : List (Nat × Instr × Nat × Nat) := [(0, .iconst (-1), 1, 0), (1, .istore_n 2, 1, 0), (2, .iconst 0, 1, 0), (3, .istore_n 3, 1, 0), (4, .iconst 0, 1, 0), (5, .istore 4, 2, 0), (7, .iload 4, 2, 0), (9, .aload_n 0, 1, 0), (10, .getfield 91, 3, 0), (13, .if_icmp .ge 88, 3, 101), (16, .aload_n 0, 1, 0), (17, .getfield 44, 3, 0)]
theorem mk89_0 : (mc89_0).all (m_okI prog_8_method_24_code) = true := by decide +kernel
def mc89_1 : List (Nat × Instr × Nat × Nat) := [(20, .iload 4, 2, 0), (22, .iaload, 1, 0), (23, .ifCond .ne 72, 3, 95), (26, .aload_n 0, 1, 0), (27, .getfield 75, 3, 0), (30, .iload 4, 2, 0), (32, .baload, 1, 0), (33, .ifCond .ne 62, 3, 95), (36, .aload_n 0, 1, 0), (37, .iload 4, 2, 0), (39, .iload_n 1, 1, 0), (40, .invokevirtual 138, 3, 0)]
theorem mk89_1 : (mc89_1).all (m_okI prog_8_method_24_code) = true := by decide +kernel
def mc89_2 : List (Nat × Instr × Nat × Nat) := [(43, .ifCond .eq 52, 3, 95), (46, .aload_n 0, 1, 0), (47, .aload_n 0, 1, 0), (48, .iload 4, 2, 0), (50, .invokevirtual 141, 3, 0), (53, .aload_n 0, 1, 0), (54, .getfield 63, 3, 0), (57, .iload 4, 2, 0), (59, .iaload, 1, 0), (60, .invokevirtual 135, 3, 0), (63, .istore 5, 2, 0), (65, .iload 5, 2, 0)]
theorem mk89_2 : (mc89_2).all (m_okI prog_8_method_24_code) = true := by decide +kernel
def mc89_3 : List (Nat × Instr × Nat × Nat) := [(67, .ifCond .ge 8, 3, 75), (70, .ldc 145, 2, 0), (72, .goto 5, 3, 77), (75, .iload 5, 2, 0), (77, .istore 5, 2, 0), (79, .iload_n 2, 1, 0), (80, .ifCond .lt 9, 3, 89), (83, .iload 5, 2, 0), (85, .iload_n 3, 1, 0), (86, .if_icmp .ge 9, 3, 95), (89, .iload 4, 2, 0), (91, .istore_n 2, 1, 0)]
theorem mk89_3 : (mc89_3).all (m_okI prog_8_method_24_code) = true := by decide +kernel
def mc89_4 : List (Nat × Instr × Nat × Nat) := [(92, .iload 5, 2, 0), (94, .istore_n 3, 1, 0), (95, .iinc 4 1, 3, 0), (98, .goto (-91), 3, 7), (101, .iload_n 2, 1, 0), (102, .ireturn, 1, 0)]
theorem mk89_4 : (mc89_4).all (m_okI prog_8_method_24_code) = true := by decide +kernel
def mc89 : List (Nat × List (Nat × Instr × Nat × Nat)) := [(18, mc89_0), (41, mc89_1), (66, mc89_2), (92, mc89_3), (103, mc89_4)]
theorem mk89 : ∀ c ∈ mc89, c.2.all (m_okI prog_8_method_24_code) = true := by
  simp only [mc89, List.forall_mem_cons, List.not_mem_nil, false_implies, implies_true, and_true]
  exact ⟨mk89_0, mk89_1, mk89_2, mk89_3, mk89_4⟩
/-- EscapeCellsModel.go(II)V -/
def mc90_0 : List (Nat × Instr × Nat × Nat) := [(0, .aload_n 0, 1, 0), (1, .iload_n 1, 1, 0), (2, .invokevirtual 141, 3, 0), (5, .istore_n 3, 1, 0), (6, .aload_n 0, 1, 0), (7, .iload_n 3, 1, 0), (8, .aload_n 0, 1, 0), (9, .getfield 63, 3, 0), (12, .iload_n 1, 1, 0), (13, .iaload, 1, 0), (14, .invokevirtual 135, 3, 0), (17, .istore 4, 2, 0)]
theorem mk90_0 : (mc90_0).all (m_okI prog_8_method_25_code) = true := by decide +kernel
def mc90_1 : List (Nat × Instr × Nat × Nat) := [(19, .iconst 0, 1, 0), (20, .istore 5, 2, 0), (22, .iload 5, 2, 0), (24, .iconst 4, 1, 0), (25, .if_icmp .ge 135, 3, 160), (28, .aload_n 0, 1, 0), (29, .aload_n 0, 1, 0), (30, .getfield 63, 3, 0), (33, .iload_n 1, 1, 0), (34, .iaload, 1, 0), (35, .iload 5, 2, 0), (37, .invokevirtual 125, 3, 0)]
theorem mk90_1 : (mc90_1).all (m_okI prog_8_method_25_code) = true := by decide +kernel
def mc90_2 : List (Nat × Instr × Nat × Nat) := [(40, .istore 6, 2, 0), (42, .iload 6, 2, 0), (44, .ifCond .lt 29, 3, 73), (47, .aload_n 0, 1, 0), (48, .iload_n 3, 1, 0), (49, .iload 6, 2, 0), (51, .invokevirtual 135, 3, 0), (54, .ifCond .lt 19, 3, 73), (57, .aload_n 0, 1, 0), (58, .iload_n 3, 1, 0), (59, .iload 6, 2, 0), (61, .invokevirtual 135, 3, 0)]
theorem mk90_2 : (mc90_2).all (m_okI prog_8_method_25_code) = true := by decide +kernel
def mc90_3 : List (Nat × Instr × Nat × Nat) := [(64, .iload 4, 2, 0), (66, .if_icmp .ge 7, 3, 73), (69, .iconst 1, 1, 0), (70, .goto 4, 3, 74), (73, .iconst 0, 1, 0), (74, .istore 7, 2, 0), (76, .iload 7, 2, 0), (78, .ifCond .eq 76, 3, 154), (81, .aload_n 0, 1, 0), (82, .getfield 7, 3, 0), (85, .iload 6, 2, 0), (87, .baload, 1, 0)]
theorem mk90_3 : (mc90_3).all (m_okI prog_8_method_25_code) = true := by decide +kernel
def mc90_4 : List (Nat × Instr × Nat × Nat) := [(88, .ifCond .ne 66, 3, 154), (91, .aload_n 0, 1, 0), (92, .getfield 66, 3, 0), (95, .iload 6, 2, 0), (97, .iaload, 1, 0), (98, .ifCond .ge 56, 3, 154), (101, .aload_n 0, 1, 0), (102, .iload 6, 2, 0), (104, .iload_n 2, 1, 0), (105, .invokevirtual 146, 3, 0), (108, .ifCond .ne 46, 3, 154), (111, .aload_n 0, 1, 0)]
theorem mk90_4 : (mc90_4).all (m_okI prog_8_method_25_code) = true := by decide +kernel
def mc90_5 : List (Nat × Instr × Nat × Nat) := [(112, .getfield 17, 3, 0), (115, .iload 6, 2, 0), (117, .iaload, 1, 0), (118, .ifCond .eq 20, 3, 138), (121, .aload_n 0, 1, 0), (122, .getfield 72, 3, 0), (125, .iload 6, 2, 0), (127, .iaload, 1, 0), (128, .aload_n 0, 1, 0), (129, .getfield 17, 3, 0), (132, .iload 6, 2, 0), (134, .iaload, 1, 0)]
theorem mk90_5 : (mc90_5).all (m_okI prog_8_method_25_code) = true := by decide +kernel
def mc90_6 : List (Nat × Instr × Nat × Nat) := [(135, .if_icmp .ge 19, 3, 154), (138, .aload_n 0, 1, 0), (139, .iload_n 1, 1, 0), (140, .iload_n 2, 1, 0), (141, .iload 6, 2, 0), (143, .aload_n 0, 1, 0), (144, .iload_n 3, 1, 0), (145, .iload 6, 2, 0), (147, .invokevirtual 122, 3, 0), (150, .invokevirtual 149, 3, 0), (153, .return_, 1, 0), (154, .iinc 5 1, 3, 0)]
theorem mk90_6 : (mc90_6).all (m_okI prog_8_method_25_code) = true := by decide +kernel
def mc90_7 : List (Nat × Instr × Nat × Nat) := [(157, .goto (-135), 3, 22), (160, .return_, 1, 0)]
theorem mk90_7 : (mc90_7).all (m_okI prog_8_method_25_code) = true := by decide +kernel
def mc90 : List (Nat × List (Nat × Instr × Nat × Nat)) := [(18, mc90_0), (38, mc90_1), (62, mc90_2), (88, mc90_3), (112, mc90_4), (135, mc90_5), (155, mc90_6), (161, mc90_7)]
theorem mk90 : ∀ c ∈ mc90, c.2.all (m_okI prog_8_method_25_code) = true := by
  simp only [mc90, List.forall_mem_cons, List.not_mem_nil, false_implies, implies_true, and_true]
  exact ⟨mk90_0, mk90_1, mk90_2, mk90_3, mk90_4, mk90_5, mk90_6, mk90_7⟩
/-- EscapeCellsModel.step(IIIZ)V -/
def mc91_0 : List (Nat × Instr × Nat × Nat) := [(0, .aload_n 0, 1, 0), (1, .getfield 66, 3, 0), (4, .aload_n 0, 1, 0), (5, .getfield 63, 3, 0), (8, .iload_n 1, 1, 0), (9, .iaload, 1, 0), (10, .iconst (-1), 1, 0), (11, .iastore, 1, 0), (12, .aload_n 0, 1, 0), (13, .getfield 72, 3, 0), (16, .iload_n 3, 1, 0), (17, .dup2, 1, 0)]
theorem mk91_0 : (mc91_0).all (m_okI prog_8_method_26_code) = true := by decide +kernel
def mc91_1 : List (Nat × Instr × Nat × Nat) := [(18, .iaload, 1, 0), (19, .iconst 1, 1, 0), (20, .iadd, 1, 0), (21, .iastore, 1, 0), (22, .aload_n 0, 1, 0), (23, .getfield 69, 3, 0), (26, .iload_n 3, 1, 0), (27, .dup2, 1, 0), (28, .iaload, 1, 0), (29, .iconst 1, 1, 0), (30, .iadd, 1, 0), (31, .iastore, 1, 0)]
theorem mk91_1 : (mc91_1).all (m_okI prog_8_method_26_code) = true := by decide +kernel
def mc91_2 : List (Nat × Instr × Nat × Nat) := [(32, .aload_n 0, 1, 0), (33, .getfield 57, 3, 0), (36, .sipush 600, 3, 0), (39, .iload_n 1, 1, 0), (40, .imul, 1, 0), (41, .aload_n 0, 1, 0), (42, .getfield 53, 3, 0), (45, .iload_n 1, 1, 0), (46, .iaload, 1, 0), (47, .iadd, 1, 0), (48, .iload_n 2, 1, 0), (49, .iastore, 1, 0)]
theorem mk91_2 : (mc91_2).all (m_okI prog_8_method_26_code) = true := by decide +kernel
def mc91_3 : List (Nat × Instr × Nat × Nat) := [(50, .aload_n 0, 1, 0), (51, .getfield 60, 3, 0), (54, .sipush 600, 3, 0), (57, .iload_n 1, 1, 0), (58, .imul, 1, 0), (59, .aload_n 0, 1, 0), (60, .getfield 53, 3, 0), (63, .iload_n 1, 1, 0), (64, .iaload, 1, 0), (65, .iadd, 1, 0), (66, .iload_n 3, 1, 0), (67, .iastore, 1, 0)]
theorem mk91_3 : (mc91_3).all (m_okI prog_8_method_26_code) = true := by decide +kernel
def mc91_4 : List (Nat × Instr × Nat × Nat) := [(68, .aload_n 0, 1, 0), (69, .getfield 53, 3, 0), (72, .iload_n 1, 1, 0), (73, .dup2, 1, 0), (74, .iaload, 1, 0), (75, .iconst 1, 1, 0), (76, .iadd, 1, 0), (77, .iastore, 1, 0), (78, .iload 4, 2, 0), (80, .ifCond .eq 39, 3, 119), (83, .aload_n 0, 1, 0), (84, .getfield 44, 3, 0)]
theorem mk91_4 : (mc91_4).all (m_okI prog_8_method_26_code) = true := by decide +kernel
def mc91_5 : List (Nat × Instr × Nat × Nat) := [(87, .iload_n 1, 1, 0), (88, .iconst 1, 1, 0), (89, .iastore, 1, 0), (90, .aload_n 0, 1, 0), (91, .getfield 47, 3, 0), (94, .iload_n 1, 1, 0), (95, .iload_n 2, 1, 0), (96, .iastore, 1, 0), (97, .aload_n 0, 1, 0), (98, .getfield 50, 3, 0), (101, .iload_n 1, 1, 0), (102, .aload_n 0, 1, 0)]
theorem mk91_5 : (mc91_5).all (m_okI prog_8_method_26_code) = true := by decide +kernel
def mc91_6 : List (Nat × Instr × Nat × Nat) := [(103, .getfield 13, 3, 0), (106, .iload_n 3, 1, 0), (107, .iaload, 1, 0), (108, .iastore, 1, 0), (109, .aload_n 0, 1, 0), (110, .getfield 63, 3, 0), (113, .iload_n 1, 1, 0), (114, .iconst (-1), 1, 0), (115, .iastore, 1, 0), (116, .goto 17, 3, 133), (119, .aload_n 0, 1, 0), (120, .getfield 63, 3, 0)]
theorem mk91_6 : (mc91_6).all (m_okI prog_8_method_26_code) = true := by decide +kernel
def mc91_7 : List (Nat × Instr × Nat × Nat) := [(123, .iload_n 1, 1, 0), (124, .iload_n 3, 1, 0), (125, .iastore, 1, 0), (126, .aload_n 0, 1, 0), (127, .getfield 66, 3, 0), (130, .iload_n 3, 1, 0), (131, .iload_n 1, 1, 0), (132, .iastore, 1, 0), (133, .return_, 1, 0)]
theorem mk91_7 : (mc91_7).all (m_okI prog_8_method_26_code) = true := by decide +kernel
def mc91 : List (Nat × List (Nat × Instr × Nat × Nat)) := [(18, mc91_0), (32, mc91_1), (50, mc91_2), (68, mc91_3), (85, mc91_4), (103, mc91_5), (121, mc91_6), (134, mc91_7)]
theorem mk91 : ∀ c ∈ mc91, c.2.all (m_okI prog_8_method_26_code) = true := by
  simp only [mc91, List.forall_mem_cons, List.not_mem_nil, false_implies, implies_true, and_true]
  exact ⟨mk91_0, mk91_1, mk91_2, mk91_3, mk91_4, mk91_5, mk91_6, mk91_7⟩
end
section
/-- EscapeCellsModel.second(I)V -/
def mc92_0 : List (Nat × Instr × Nat × Nat) := [(0, .iconst 0, 1, 0), (1, .istore_n 2, 1, 0), (2, .iload_n 2, 1, 0), (3, .sipush 576, 3, 0), (6, .if_icmp .ge 16, 3, 22), (9, .aload_n 0, 1, 0), (10, .getfield 72, 3, 0), (13, .iload_n 2, 1, 0), (14, .iconst 0, 1, 0), (15, .iastore, 1, 0), (16, .iinc 2 1, 3, 0), (19, .goto (-17), 3, 2)]
theorem mk92_0 : (mc92_0).all (m_okI prog_8_method_27_code) = true := by decide +kernel
def mc92_1 : List (Nat × Instr × Nat × Nat) := [(22, .iconst 0, 1, 0), (23, .istore_n 2, 1, 0), (24, .iload_n 2, 1, 0), (25, .aload_n 0, 1, 0), (26, .getfield 91, 3, 0), (29, .if_icmp .ge 72, 3, 101), (32, .aload_n 0, 1, 0), (33, .getfield 75, 3, 0), (36, .iload_n 2, 1, 0), (37, .iconst 0, 1, 0), (38, .bastore, 1, 0), (39, .aload_n 0, 1, 0)]
theorem mk92_1 : (mc92_1).all (m_okI prog_8_method_27_code) = true := by decide +kernel
def mc92_2 : List (Nat × Instr × Nat × Nat) := [(40, .getfield 44, 3, 0), (43, .iload_n 2, 1, 0), (44, .iaload, 1, 0), (45, .ifCond .ne 50, 3, 95), (48, .aload_n 0, 1, 0), (49, .aload_n 0, 1, 0), (50, .getfield 63, 3, 0), (53, .iload_n 2, 1, 0), (54, .iaload, 1, 0), (55, .iload_n 1, 1, 0), (56, .invokevirtual 146, 3, 0), (59, .ifCond .eq 36, 3, 95)]
theorem mk92_2 : (mc92_2).all (m_okI prog_8_method_27_code) = true := by decide +kernel
def mc92_3 : List (Nat × Instr × Nat × Nat) := [(62, .aload_n 0, 1, 0), (63, .getfield 44, 3, 0), (66, .iload_n 2, 1, 0), (67, .iconst 2, 1, 0), (68, .iastore, 1, 0), (69, .aload_n 0, 1, 0), (70, .getfield 47, 3, 0), (73, .iload_n 2, 1, 0), (74, .iload_n 1, 1, 0), (75, .iastore, 1, 0), (76, .aload_n 0, 1, 0), (77, .getfield 66, 3, 0)]
theorem mk92_3 : (mc92_3).all (m_okI prog_8_method_27_code) = true := by decide +kernel
def mc92_4 : List (Nat × Instr × Nat × Nat) := [(80, .aload_n 0, 1, 0), (81, .getfield 63, 3, 0), (84, .iload_n 2, 1, 0), (85, .iaload, 1, 0), (86, .iconst (-1), 1, 0), (87, .iastore, 1, 0), (88, .aload_n 0, 1, 0), (89, .getfield 63, 3, 0), (92, .iload_n 2, 1, 0), (93, .iconst (-1), 1, 0), (94, .iastore, 1, 0), (95, .iinc 2 1, 3, 0)]
theorem mk92_4 : (mc92_4).all (m_okI prog_8_method_27_code) = true := by decide +kernel
def mc92_5 : List (Nat × Instr × Nat × Nat) := [(98, .goto (-74), 3, 24), (101, .aload_n 0, 1, 0), (102, .iload_n 1, 1, 0), (103, .invokevirtual 153, 3, 0), (106, .istore_n 2, 1, 0), (107, .iload_n 2, 1, 0), (108, .ifCond .lt 25, 3, 133), (111, .aload_n 0, 1, 0), (112, .getfield 75, 3, 0), (115, .iload_n 2, 1, 0), (116, .iconst 1, 1, 0), (117, .bastore, 1, 0)]
theorem mk92_5 : (mc92_5).all (m_okI prog_8_method_27_code) = true := by decide +kernel
def mc92_6 : List (Nat × Instr × Nat × Nat) := [(118, .aload_n 0, 1, 0), (119, .iload_n 2, 1, 0), (120, .iload_n 1, 1, 0), (121, .invokevirtual 156, 3, 0), (124, .aload_n 0, 1, 0), (125, .iload_n 1, 1, 0), (126, .invokevirtual 153, 3, 0), (129, .istore_n 2, 1, 0), (130, .goto (-23), 3, 107), (133, .return_, 1, 0)]
theorem mk92_6 : (mc92_6).all (m_okI prog_8_method_27_code) = true := by decide +kernel
def mc92 : List (Nat × List (Nat × Instr × Nat × Nat)) := [(20, mc92_0), (40, mc92_1), (60, mc92_2), (78, mc92_3), (96, mc92_4), (118, mc92_5), (134, mc92_6)]
theorem mk92 : ∀ c ∈ mc92, c.2.all (m_okI prog_8_method_27_code) = true := by
  simp only [mc92, List.forall_mem_cons, List.not_mem_nil, false_implies, implies_true, and_true]
  exact ⟨mk92_0, mk92_1, mk92_2, mk92_3, mk92_4, mk92_5, mk92_6⟩
/-- EscapeCellsModel.anyWaits()Z -/
def mc93_0 : List (Nat × Instr × Nat × Nat) := [(0, .iconst 0, 1, 0), (1, .istore_n 1, 1, 0), (2, .iconst 0, 1, 0), (3, .istore_n 2, 1, 0), (4, .iload_n 2, 1, 0), (5, .aload_n 0, 1, 0), (6, .getfield 91, 3, 0), (9, .if_icmp .ge 28, 3, 37), (12, .iload_n 1, 1, 0), (13, .ifCond .ne 12, 3, 25), (16, .aload_n 0, 1, 0), (17, .getfield 44, 3, 0)]
theorem mk93_0 : (mc93_0).all (m_okI prog_8_method_28_code) = true := by decide +kernel
def mc93_1 : List (Nat × Instr × Nat × Nat) := [(20, .iload_n 2, 1, 0), (21, .iaload, 1, 0), (22, .ifCond .ne 7, 3, 29), (25, .iconst 1, 1, 0), (26, .goto 4, 3, 30), (29, .iconst 0, 1, 0), (30, .istore_n 1, 1, 0), (31, .iinc 2 1, 3, 0), (34, .goto (-30), 3, 4), (37, .iload_n 1, 1, 0), (38, .ireturn, 1, 0)]
theorem mk93_1 : (mc93_1).all (m_okI prog_8_method_28_code) = true := by decide +kernel
def mc93 : List (Nat × List (Nat × Instr × Nat × Nat)) := [(18, mc93_0), (39, mc93_1)]
theorem mk93 : ∀ c ∈ mc93, c.2.all (m_okI prog_8_method_28_code) = true := by
  simp only [mc93, List.forall_mem_cons, List.not_mem_nil, false_implies, implies_true, and_true]
  exact ⟨mk93_0, mk93_1⟩
/-- EscapeCellsModel.run()I -/
def mc94_0 : List (Nat × Instr × Nat × Nat) := [(0, .aload_n 0, 1, 0), (1, .iconst 0, 1, 0), (2, .putfield 88, 3, 0), (5, .aload_n 0, 1, 0), (6, .invokevirtual 132, 3, 0), (9, .iconst 0, 1, 0), (10, .istore_n 1, 1, 0), (11, .iload_n 1, 1, 0), (12, .sipush 576, 3, 0), (15, .if_icmp .ge 23, 3, 38), (18, .aload_n 0, 1, 0), (19, .getfield 66, 3, 0)]
theorem mk94_0 : (mc94_0).all (m_okI prog_8_method_29_code) = true := by decide +kernel
def mc94_1 : List (Nat × Instr × Nat × Nat) := [(22, .iload_n 1, 1, 0), (23, .iconst (-1), 1, 0), (24, .iastore, 1, 0), (25, .aload_n 0, 1, 0), (26, .getfield 69, 3, 0), (29, .iload_n 1, 1, 0), (30, .iconst 0, 1, 0), (31, .iastore, 1, 0), (32, .iinc 1 1, 3, 0), (35, .goto (-24), 3, 11), (38, .iconst 0, 1, 0), (39, .istore_n 1, 1, 0)]
theorem mk94_1 : (mc94_1).all (m_okI prog_8_method_29_code) = true := by decide +kernel
def mc94_2 : List (Nat × Instr × Nat × Nat) := [(40, .iload_n 1, 1, 0), (41, .aload_n 0, 1, 0), (42, .getfield 91, 3, 0), (45, .if_icmp .ge 61, 3, 106), (48, .aload_n 0, 1, 0), (49, .getfield 44, 3, 0), (52, .iload_n 1, 1, 0), (53, .iconst 0, 1, 0), (54, .iastore, 1, 0), (55, .aload_n 0, 1, 0), (56, .getfield 47, 3, 0), (59, .iload_n 1, 1, 0)]
theorem mk94_2 : (mc94_2).all (m_okI prog_8_method_29_code) = true := by decide +kernel
def mc94_3 : List (Nat × Instr × Nat × Nat) := [(60, .iconst (-1), 1, 0), (61, .iastore, 1, 0), (62, .aload_n 0, 1, 0), (63, .getfield 50, 3, 0), (66, .iload_n 1, 1, 0), (67, .iconst (-1), 1, 0), (68, .iastore, 1, 0), (69, .aload_n 0, 1, 0), (70, .getfield 53, 3, 0), (73, .iload_n 1, 1, 0), (74, .iconst 0, 1, 0), (75, .iastore, 1, 0)]
theorem mk94_3 : (mc94_3).all (m_okI prog_8_method_29_code) = true := by decide +kernel
def mc94_4 : List (Nat × Instr × Nat × Nat) := [(76, .aload_n 0, 1, 0), (77, .getfield 63, 3, 0), (80, .iload_n 1, 1, 0), (81, .aload_n 0, 1, 0), (82, .getfield 26, 3, 0), (85, .iload_n 1, 1, 0), (86, .iaload, 1, 0), (87, .iastore, 1, 0), (88, .aload_n 0, 1, 0), (89, .getfield 66, 3, 0), (92, .aload_n 0, 1, 0), (93, .getfield 26, 3, 0)]
theorem mk94_4 : (mc94_4).all (m_okI prog_8_method_29_code) = true := by decide +kernel
def mc94_5 : List (Nat × Instr × Nat × Nat) := [(96, .iload_n 1, 1, 0), (97, .iaload, 1, 0), (98, .iload_n 1, 1, 0), (99, .iastore, 1, 0), (100, .iinc 1 1, 3, 0), (103, .goto (-63), 3, 40), (106, .aload_n 0, 1, 0), (107, .iconst 0, 1, 0), (108, .putfield 160, 3, 0), (111, .aload_n 0, 1, 0), (112, .getfield 160, 3, 0), (115, .sipush 3600, 3, 0)]
theorem mk94_5 : (mc94_5).all (m_okI prog_8_method_29_code) = true := by decide +kernel
def mc94_6 : List (Nat × Instr × Nat × Nat) := [(118, .if_icmp .ge 31, 3, 149), (121, .aload_n 0, 1, 0), (122, .invokevirtual 163, 3, 0), (125, .ifCond .eq 24, 3, 149), (128, .aload_n 0, 1, 0), (129, .dup, 1, 0), (130, .getfield 160, 3, 0), (133, .iconst 1, 1, 0), (134, .iadd, 1, 0), (135, .putfield 160, 3, 0), (138, .aload_n 0, 1, 0), (139, .aload_n 0, 1, 0)]
theorem mk94_6 : (mc94_6).all (m_okI prog_8_method_29_code) = true := by decide +kernel
def mc94_7 : List (Nat × Instr × Nat × Nat) := [(140, .getfield 160, 3, 0), (143, .invokevirtual 167, 3, 0), (146, .goto (-35), 3, 111), (149, .aload_n 0, 1, 0), (150, .iconst 1, 1, 0), (151, .putfield 98, 3, 0), (154, .aload_n 0, 1, 0), (155, .getfield 160, 3, 0), (158, .ireturn, 1, 0)]
theorem mk94_7 : (mc94_7).all (m_okI prog_8_method_29_code) = true := by decide +kernel
def mc94 : List (Nat × List (Nat × Instr × Nat × Nat)) := [(20, mc94_0), (40, mc94_1), (60, mc94_2), (76, mc94_3), (94, mc94_4), (116, mc94_5), (140, mc94_6), (159, mc94_7)]
theorem mk94 : ∀ c ∈ mc94, c.2.all (m_okI prog_8_method_29_code) = true := by
  simp only [mc94, List.forall_mem_cons, List.not_mem_nil, false_implies, implies_true, and_true]
  exact ⟨mk94_0, mk94_1, mk94_2, mk94_3, mk94_4, mk94_5, mk94_6, mk94_7⟩
/-- EscapeCellsModel.told(II)I -/
def mc95_0 : List (Nat × Instr × Nat × Nat) := [(0, .aload_n 0, 1, 0), (1, .iload_n 1, 1, 0), (2, .ifCond .lt 20, 3, 22), (5, .iload_n 1, 1, 0), (6, .aload_n 0, 1, 0), (7, .getfield 91, 3, 0), (10, .if_icmp .ge 12, 3, 22), (13, .iload_n 2, 1, 0), (14, .ifCond .lt 8, 3, 22), (17, .iload_n 2, 1, 0), (18, .iconst 3, 1, 0), (19, .if_icmp .le 7, 3, 26)]
theorem mk95_0 : (mc95_0).all (m_okI prog_8_method_30_code) = true := by decide +kernel
def mc95_1 : List (Nat × Instr × Nat × Nat) := [(22, .iconst 1, 1, 0), (23, .goto 15, 3, 38), (26, .aload_n 0, 1, 0), (27, .getfield 98, 3, 0), (30, .ifCond .ne 7, 3, 37), (33, .iconst 2, 1, 0), (34, .goto 4, 3, 38), (37, .iconst 0, 1, 0), (38, .invokevirtual 113, 3, 0), (41, .ifCond .eq 5, 3, 46), (44, .iconst 0, 1, 0), (45, .ireturn, 1, 0)]
theorem mk95_1 : (mc95_1).all (m_okI prog_8_method_30_code) = true := by decide +kernel
def mc95_2 : List (Nat × Instr × Nat × Nat) := [(46, .iload_n 2, 1, 0), (47, .ifCond .ne 12, 3, 59), (50, .aload_n 0, 1, 0), (51, .getfield 44, 3, 0), (54, .iload_n 1, 1, 0), (55, .iaload, 1, 0), (56, .goto 37, 3, 93), (59, .iload_n 2, 1, 0), (60, .iconst 1, 1, 0), (61, .if_icmp .ne 12, 3, 73), (64, .aload_n 0, 1, 0), (65, .getfield 47, 3, 0)]
theorem mk95_2 : (mc95_2).all (m_okI prog_8_method_30_code) = true := by decide +kernel
def mc95_3 : List (Nat × Instr × Nat × Nat) := [(68, .iload_n 1, 1, 0), (69, .iaload, 1, 0), (70, .goto 23, 3, 93), (73, .iload_n 2, 1, 0), (74, .iconst 2, 1, 0), (75, .if_icmp .ne 12, 3, 87), (78, .aload_n 0, 1, 0), (79, .getfield 50, 3, 0), (82, .iload_n 1, 1, 0), (83, .iaload, 1, 0), (84, .goto 9, 3, 93), (87, .aload_n 0, 1, 0)]
theorem mk95_3 : (mc95_3).all (m_okI prog_8_method_30_code) = true := by decide +kernel
def mc95_4 : List (Nat × Instr × Nat × Nat) := [(88, .getfield 53, 3, 0), (91, .iload_n 1, 1, 0), (92, .iaload, 1, 0), (93, .ireturn, 1, 0)]
theorem mk95_4 : (mc95_4).all (m_okI prog_8_method_30_code) = true := by decide +kernel
def mc95 : List (Nat × List (Nat × Instr × Nat × Nat)) := [(20, mc95_0), (46, mc95_1), (66, mc95_2), (88, mc95_3), (94, mc95_4)]
theorem mk95 : ∀ c ∈ mc95, c.2.all (m_okI prog_8_method_30_code) = true := by
  simp only [mc95, List.forall_mem_cons, List.not_mem_nil, false_implies, implies_true, and_true]
  exact ⟨mk95_0, mk95_1, mk95_2, mk95_3, mk95_4⟩
/-- EscapeCellsModel.placeAt(II)I -/
def mc96_0 : List (Nat × Instr × Nat × Nat) := [(0, .aload_n 0, 1, 0), (1, .getfield 47, 3, 0), (4, .iload_n 1, 1, 0), (5, .iaload, 1, 0), (6, .ifCond .lt 15, 3, 21), (9, .aload_n 0, 1, 0), (10, .getfield 47, 3, 0), (13, .iload_n 1, 1, 0), (14, .iaload, 1, 0), (15, .iload_n 2, 1, 0), (16, .if_icmp .gt 5, 3, 21), (19, .iconst (-1), 1, 0)]
theorem mk96_0 : (mc96_0).all (m_okI prog_8_method_31_code) = true := by decide +kernel
def mc96_1 : List (Nat × Instr × Nat × Nat) := [(20, .ireturn, 1, 0), (21, .aload_n 0, 1, 0), (22, .getfield 26, 3, 0), (25, .iload_n 1, 1, 0), (26, .iaload, 1, 0), (27, .istore_n 3, 1, 0), (28, .iconst 0, 1, 0), (29, .istore 4, 2, 0), (31, .iload 4, 2, 0), (33, .aload_n 0, 1, 0), (34, .getfield 53, 3, 0), (37, .iload_n 1, 1, 0)]
theorem mk96_1 : (mc96_1).all (m_okI prog_8_method_31_code) = true := by decide +kernel
def mc96_2 : List (Nat × Instr × Nat × Nat) := [(38, .iaload, 1, 0), (39, .if_icmp .ge 40, 3, 79), (42, .aload_n 0, 1, 0), (43, .getfield 57, 3, 0), (46, .sipush 600, 3, 0), (49, .iload_n 1, 1, 0), (50, .imul, 1, 0), (51, .iload 4, 2, 0), (53, .iadd, 1, 0), (54, .iaload, 1, 0), (55, .iload_n 2, 1, 0), (56, .if_icmp .gt 23, 3, 79)]
theorem mk96_2 : (mc96_2).all (m_okI prog_8_method_31_code) = true := by decide +kernel
def mc96_3 : List (Nat × Instr × Nat × Nat) := [(59, .aload_n 0, 1, 0), (60, .getfield 60, 3, 0), (63, .sipush 600, 3, 0), (66, .iload_n 1, 1, 0), (67, .imul, 1, 0), (68, .iload 4, 2, 0), (70, .iadd, 1, 0), (71, .iaload, 1, 0), (72, .istore_n 3, 1, 0), (73, .iinc 4 1, 3, 0), (76, .goto (-45), 3, 31), (79, .iload_n 3, 1, 0)]
theorem mk96_3 : (mc96_3).all (m_okI prog_8_method_31_code) = true := by decide +kernel
def mc96_4 : List (Nat × Instr × Nat × Nat) := [(80, .ireturn, 1, 0)]
theorem mk96_4 : (mc96_4).all (m_okI prog_8_method_31_code) = true := by decide +kernel
def mc96 : List (Nat × List (Nat × Instr × Nat × Nat)) := [(20, mc96_0), (38, mc96_1), (57, mc96_2), (80, mc96_3), (81, mc96_4)]
theorem mk96 : ∀ c ∈ mc96, c.2.all (m_okI prog_8_method_31_code) = true := by
  simp only [mc96, List.forall_mem_cons, List.not_mem_nil, false_implies, implies_true, and_true]
  exact ⟨mk96_0, mk96_1, mk96_2, mk96_3, mk96_4⟩
/-- EscapeCellsModel.at(III)I -/
def mc97_0 : List (Nat × Instr × Nat × Nat) := [(0, .iload_n 1, 1, 0), (1, .ifCond .lt 35, 3, 36), (4, .iload_n 1, 1, 0), (5, .aload_n 0, 1, 0), (6, .getfield 91, 3, 0), (9, .if_icmp .ge 27, 3, 36), (12, .iload_n 2, 1, 0), (13, .ifCond .lt 23, 3, 36), (16, .iload_n 2, 1, 0), (17, .sipush 3600, 3, 0), (20, .if_icmp .gt 16, 3, 36), (23, .iload_n 3, 1, 0)]
theorem mk97_0 : (mc97_0).all (m_okI prog_8_method_32_code) = true := by decide +kernel
def mc97_1 : List (Nat × Instr × Nat × Nat) := [(24, .ifCond .lt 12, 3, 36), (27, .iload_n 3, 1, 0), (28, .iconst 2, 1, 0), (29, .if_icmp .ge 7, 3, 36), (32, .iconst 1, 1, 0), (33, .goto 4, 3, 37), (36, .iconst 0, 1, 0), (37, .istore 4, 2, 0), (39, .aload_n 0, 1, 0), (40, .iload 4, 2, 0), (42, .ifCond .ne 7, 3, 49), (45, .iconst 1, 1, 0)]
theorem mk97_1 : (mc97_1).all (m_okI prog_8_method_32_code) = true := by decide +kernel
def mc97_2 : List (Nat × Instr × Nat × Nat) := [(46, .goto 15, 3, 61), (49, .aload_n 0, 1, 0), (50, .getfield 98, 3, 0), (53, .ifCond .ne 7, 3, 60), (56, .iconst 2, 1, 0), (57, .goto 4, 3, 61), (60, .iconst 0, 1, 0), (61, .invokevirtual 113, 3, 0), (64, .ifCond .eq 5, 3, 69), (67, .iconst 0, 1, 0), (68, .ireturn, 1, 0), (69, .aload_n 0, 1, 0)]
theorem mk97_2 : (mc97_2).all (m_okI prog_8_method_32_code) = true := by decide +kernel
def mc97_3 : List (Nat × Instr × Nat × Nat) := [(70, .iload_n 1, 1, 0), (71, .iload_n 2, 1, 0), (72, .invokevirtual 170, 3, 0), (75, .istore 5, 2, 0), (77, .iload 5, 2, 0), (79, .ifCond .ge 7, 3, 86), (82, .iconst (-1), 1, 0), (83, .goto 20, 3, 103), (86, .iload_n 3, 1, 0), (87, .ifCond .ne 11, 3, 98), (90, .iload 5, 2, 0), (92, .bipush 24, 2, 0)]
theorem mk97_3 : (mc97_3).all (m_okI prog_8_method_32_code) = true := by decide +kernel
def mc97_4 : List (Nat × Instr × Nat × Nat) := [(94, .irem, 1, 0), (95, .goto 8, 3, 103), (98, .iload 5, 2, 0), (100, .bipush 24, 2, 0), (102, .idiv, 1, 0), (103, .ireturn, 1, 0)]
theorem mk97_4 : (mc97_4).all (m_okI prog_8_method_32_code) = true := by decide +kernel
def mc97 : List (Nat × List (Nat × Instr × Nat × Nat)) := [(24, mc97_0), (46, mc97_1), (70, mc97_2), (93, mc97_3), (104, mc97_4)]
theorem mk97 : ∀ c ∈ mc97, c.2.all (m_okI prog_8_method_32_code) = true := by
  simp only [mc97, List.forall_mem_cons, List.not_mem_nil, false_implies, implies_true, and_true]
  exact ⟨mk97_0, mk97_1, mk97_2, mk97_3, mk97_4⟩
/-- EscapeCellsModel.through(II)I -/
def mc98_0 : List (Nat × Instr × Nat × Nat) := [(0, .aload_n 0, 1, 0), (1, .aload_n 0, 1, 0), (2, .iload_n 1, 1, 0), (3, .iload_n 2, 1, 0), (4, .invokevirtual 101, 3, 0), (7, .ifCond .ne 7, 3, 14), (10, .iconst 1, 1, 0), (11, .goto 15, 3, 26), (14, .aload_n 0, 1, 0), (15, .getfield 98, 3, 0), (18, .ifCond .ne 7, 3, 25), (21, .iconst 2, 1, 0)]
theorem mk98_0 : (mc98_0).all (m_okI prog_8_method_33_code) = true := by decide +kernel
def mc98_1 : List (Nat × Instr × Nat × Nat) := [(22, .goto 4, 3, 26), (25, .iconst 0, 1, 0), (26, .invokevirtual 113, 3, 0), (29, .ifCond .eq 7, 3, 36), (32, .iconst 0, 1, 0), (33, .goto 13, 3, 46), (36, .aload_n 0, 1, 0), (37, .getfield 69, 3, 0), (40, .iload_n 1, 1, 0), (41, .iload_n 2, 1, 0), (42, .invokestatic 105, 3, 0), (45, .iaload, 1, 0)]
theorem mk98_1 : (mc98_1).all (m_okI prog_8_method_33_code) = true := by decide +kernel
def mc98_2 : List (Nat × Instr × Nat × Nat) := [(46, .ireturn, 1, 0)]
theorem mk98_2 : (mc98_2).all (m_okI prog_8_method_33_code) = true := by decide +kernel
def mc98 : List (Nat × List (Nat × Instr × Nat × Nat)) := [(22, mc98_0), (46, mc98_1), (47, mc98_2)]
theorem mk98 : ∀ c ∈ mc98, c.2.all (m_okI prog_8_method_33_code) = true := by
  simp only [mc98, List.forall_mem_cons, List.not_mem_nil, false_implies, implies_true, and_true]
  exact ⟨mk98_0, mk98_1, mk98_2⟩
/-- EscapeCellsModel.left(I)I -/
def mc99_0 : List (Nat × Instr × Nat × Nat) := [(0, .aload_n 0, 1, 0), (1, .iload_n 1, 1, 0), (2, .ifCond .lt 10, 3, 12), (5, .iload_n 1, 1, 0), (6, .sipush 3600, 3, 0), (9, .if_icmp .le 7, 3, 16), (12, .iconst 1, 1, 0), (13, .goto 15, 3, 28), (16, .aload_n 0, 1, 0), (17, .getfield 98, 3, 0), (20, .ifCond .ne 7, 3, 27), (23, .iconst 2, 1, 0)]
theorem mk99_0 : (mc99_0).all (m_okI prog_8_method_34_code) = true := by decide +kernel
def mc99_1 : List (Nat × Instr × Nat × Nat) := [(24, .goto 4, 3, 28), (27, .iconst 0, 1, 0), (28, .invokevirtual 113, 3, 0), (31, .ifCond .eq 5, 3, 36), (34, .iconst 0, 1, 0), (35, .ireturn, 1, 0), (36, .iconst 0, 1, 0), (37, .istore_n 2, 1, 0), (38, .iconst 0, 1, 0), (39, .istore_n 3, 1, 0), (40, .iload_n 3, 1, 0), (41, .aload_n 0, 1, 0)]
theorem mk99_1 : (mc99_1).all (m_okI prog_8_method_34_code) = true := by decide +kernel
def mc99_2 : List (Nat × Instr × Nat × Nat) := [(42, .getfield 91, 3, 0), (45, .if_icmp .ge 26, 3, 71), (48, .iload_n 2, 1, 0), (49, .aload_n 0, 1, 0), (50, .iload_n 3, 1, 0), (51, .iload_n 1, 1, 0), (52, .invokevirtual 170, 3, 0), (55, .ifCond .lt 7, 3, 62), (58, .iconst 1, 1, 0), (59, .goto 4, 3, 63), (62, .iconst 0, 1, 0), (63, .iadd, 1, 0)]
theorem mk99_2 : (mc99_2).all (m_okI prog_8_method_34_code) = true := by decide +kernel
def mc99_3 : List (Nat × Instr × Nat × Nat) := [(64, .istore_n 2, 1, 0), (65, .iinc 3 1, 3, 0), (68, .goto (-28), 3, 40), (71, .iload_n 2, 1, 0), (72, .ireturn, 1, 0)]
theorem mk99_3 : (mc99_3).all (m_okI prog_8_method_34_code) = true := by decide +kernel
def mc99 : List (Nat × List (Nat × Instr × Nat × Nat)) := [(24, mc99_0), (42, mc99_1), (64, mc99_2), (73, mc99_3)]
theorem mk99 : ∀ c ∈ mc99, c.2.all (m_okI prog_8_method_34_code) = true := by
  simp only [mc99, List.forall_mem_cons, List.not_mem_nil, false_implies, implies_true, and_true]
  exact ⟨mk99_0, mk99_1, mk99_2, mk99_3⟩
/-- EscapeCellsModel.isTurn(I)Z -/
def mc100_0 : List (Nat × Instr × Nat × Nat) := [(0, .aload_n 0, 1, 0), (1, .bipush 8, 2, 0), (3, .iload_n 1, 1, 0), (4, .invokevirtual 135, 3, 0), (7, .istore_n 2, 1, 0), (8, .iconst 0, 1, 0), (9, .istore_n 3, 1, 0), (10, .iconst 0, 1, 0), (11, .istore 4, 2, 0), (13, .iload 4, 2, 0), (15, .iconst 4, 1, 0), (16, .if_icmp .ge 54, 3, 70)]
theorem mk100_0 : (mc100_0).all (m_okI prog_8_method_35_code) = true := by decide +kernel
def mc100_1 : List (Nat × Instr × Nat × Nat) := [(19, .aload_n 0, 1, 0), (20, .iload_n 1, 1, 0), (21, .iload 4, 2, 0), (23, .invokevirtual 125, 3, 0), (26, .istore 5, 2, 0), (28, .iload_n 3, 1, 0), (29, .iload 5, 2, 0), (31, .ifCond .lt 30, 3, 61), (34, .aload_n 0, 1, 0), (35, .bipush 8, 2, 0), (37, .iload 5, 2, 0), (39, .invokevirtual 135, 3, 0)]
theorem mk100_1 : (mc100_1).all (m_okI prog_8_method_35_code) = true := by decide +kernel
def mc100_2 : List (Nat × Instr × Nat × Nat) := [(42, .ifCond .lt 19, 3, 61), (45, .aload_n 0, 1, 0), (46, .bipush 8, 2, 0), (48, .iload 5, 2, 0), (50, .invokevirtual 135, 3, 0), (53, .iload_n 2, 1, 0), (54, .if_icmp .ge 7, 3, 61), (57, .iconst 1, 1, 0), (58, .goto 4, 3, 62), (61, .iconst 0, 1, 0), (62, .iadd, 1, 0), (63, .istore_n 3, 1, 0)]
theorem mk100_2 : (mc100_2).all (m_okI prog_8_method_35_code) = true := by decide +kernel
def mc100_3 : List (Nat × Instr × Nat × Nat) := [(64, .iinc 4 1, 3, 0), (67, .goto (-54), 3, 13), (70, .iload_n 2, 1, 0), (71, .ifCond .le 12, 3, 83), (74, .iload_n 3, 1, 0), (75, .iconst 1, 1, 0), (76, .if_icmp .le 7, 3, 83), (79, .iconst 1, 1, 0), (80, .goto 4, 3, 84), (83, .iconst 0, 1, 0), (84, .ireturn, 1, 0)]
theorem mk100_3 : (mc100_3).all (m_okI prog_8_method_35_code) = true := by decide +kernel
def mc100 : List (Nat × List (Nat × Instr × Nat × Nat)) := [(17, mc100_0), (40, mc100_1), (64, mc100_2), (85, mc100_3)]
theorem mk100 : ∀ c ∈ mc100, c.2.all (m_okI prog_8_method_35_code) = true := by
  simp only [mc100, List.forall_mem_cons, List.not_mem_nil, false_implies, implies_true, and_true]
  exact ⟨mk100_0, mk100_1, mk100_2, mk100_3⟩
/-- EscapeCellsModel.turns()I -/
def mc101_0 : List (Nat × Instr × Nat × Nat) := [(0, .aload_n 0, 1, 0), (1, .iconst 0, 1, 0), (2, .putfield 88, 3, 0), (5, .aload_n 0, 1, 0), (6, .invokevirtual 132, 3, 0), (9, .iconst 0, 1, 0), (10, .istore_n 1, 1, 0), (11, .iconst 0, 1, 0), (12, .istore_n 2, 1, 0), (13, .iload_n 2, 1, 0), (14, .sipush 576, 3, 0), (17, .if_icmp .ge 25, 3, 42)]
theorem mk101_0 : (mc101_0).all (m_okI prog_8_method_36_code) = true := by decide +kernel
def mc101_1 : List (Nat × Instr × Nat × Nat) := [(20, .iload_n 1, 1, 0), (21, .aload_n 0, 1, 0), (22, .iload_n 2, 1, 0), (23, .invokevirtual 173, 3, 0), (26, .ifCond .eq 7, 3, 33), (29, .iconst 1, 1, 0), (30, .goto 4, 3, 34), (33, .iconst 0, 1, 0), (34, .iadd, 1, 0), (35, .istore_n 1, 1, 0), (36, .iinc 2 1, 3, 0), (39, .goto (-26), 3, 13)]
theorem mk101_1 : (mc101_1).all (m_okI prog_8_method_36_code) = true := by decide +kernel
def mc101_2 : List (Nat × Instr × Nat × Nat) := [(42, .iload_n 1, 1, 0), (43, .ireturn, 1, 0)]
theorem mk101_2 : (mc101_2).all (m_okI prog_8_method_36_code) = true := by decide +kernel
def mc101 : List (Nat × List (Nat × Instr × Nat × Nat)) := [(18, mc101_0), (40, mc101_1), (44, mc101_2)]
theorem mk101 : ∀ c ∈ mc101, c.2.all (m_okI prog_8_method_36_code) = true := by
  simp only [mc101, List.forall_mem_cons, List.not_mem_nil, false_implies, implies_true, and_true]
  exact ⟨mk101_0, mk101_1, mk101_2⟩
/-- EscapeCellsModel.isNear(II)Z -/
def mc102_0 : List (Nat × Instr × Nat × Nat) := [(0, .iload_n 1, 1, 0), (1, .iload_n 2, 1, 0), (2, .if_icmp .ne 5, 3, 7), (5, .iconst 1, 1, 0), (6, .ireturn, 1, 0), (7, .iconst 0, 1, 0), (8, .istore_n 3, 1, 0), (9, .iload_n 3, 1, 0), (10, .iconst 4, 1, 0), (11, .if_icmp .ge 94, 3, 105), (14, .aload_n 0, 1, 0), (15, .iload_n 1, 1, 0)]
theorem mk102_0 : (mc102_0).all (m_okI prog_8_method_37_code) = true := by decide +kernel
def mc102_1 : List (Nat × Instr × Nat × Nat) := [(16, .iload_n 3, 1, 0), (17, .invokevirtual 125, 3, 0), (20, .istore 4, 2, 0), (22, .iload 4, 2, 0), (24, .ifCond .lt 75, 3, 99), (27, .aload_n 0, 1, 0), (28, .getfield 7, 3, 0), (31, .iload 4, 2, 0), (33, .baload, 1, 0), (34, .ifCond .eq 6, 3, 40), (37, .goto 62, 3, 99), (40, .iload 4, 2, 0)]
theorem mk102_1 : (mc102_1).all (m_okI prog_8_method_37_code) = true := by decide +kernel
def mc102_2 : List (Nat × Instr × Nat × Nat) := [(42, .iload_n 2, 1, 0), (43, .if_icmp .ne 7, 3, 50), (46, .iconst 1, 1, 0), (47, .goto 4, 3, 51), (50, .iconst 0, 1, 0), (51, .istore 5, 2, 0), (53, .iconst 0, 1, 0), (54, .istore 6, 2, 0), (56, .iload 6, 2, 0), (58, .iconst 4, 1, 0), (59, .if_icmp .ge 33, 3, 92), (62, .iload 5, 2, 0)]
theorem mk102_2 : (mc102_2).all (m_okI prog_8_method_37_code) = true := by decide +kernel
def mc102_3 : List (Nat × Instr × Nat × Nat) := [(64, .ifCond .ne 15, 3, 79), (67, .aload_n 0, 1, 0), (68, .iload 4, 2, 0), (70, .iload 6, 2, 0), (72, .invokevirtual 125, 3, 0), (75, .iload_n 2, 1, 0), (76, .if_icmp .ne 7, 3, 83), (79, .iconst 1, 1, 0), (80, .goto 4, 3, 84), (83, .iconst 0, 1, 0), (84, .istore 5, 2, 0), (86, .iinc 6 1, 3, 0)]
theorem mk102_3 : (mc102_3).all (m_okI prog_8_method_37_code) = true := by decide +kernel
def mc102_4 : List (Nat × Instr × Nat × Nat) := [(89, .goto (-33), 3, 56), (92, .iload 5, 2, 0), (94, .ifCond .eq 5, 3, 99), (97, .iconst 1, 1, 0), (98, .ireturn, 1, 0), (99, .iinc 3 1, 3, 0), (102, .goto (-93), 3, 9), (105, .iconst 0, 1, 0), (106, .ireturn, 1, 0)]
theorem mk102_4 : (mc102_4).all (m_okI prog_8_method_37_code) = true := by decide +kernel
def mc102 : List (Nat × List (Nat × Instr × Nat × Nat)) := [(16, mc102_0), (41, mc102_1), (63, mc102_2), (87, mc102_3), (107, mc102_4)]
theorem mk102 : ∀ c ∈ mc102, c.2.all (m_okI prog_8_method_37_code) = true := by
  simp only [mc102, List.forall_mem_cons, List.not_mem_nil, false_implies, implies_true, and_true]
  exact ⟨mk102_0, mk102_1, mk102_2, mk102_3, mk102_4⟩
/-- EscapeCellsModel.signs()I -/
def mc103_0 : List (Nat × Instr × Nat × Nat) := [(0, .aload_n 0, 1, 0), (1, .invokevirtual 176, 3, 0), (4, .istore_n 1, 1, 0), (5, .iload_n 1, 1, 0), (6, .bipush 12, 2, 0), (8, .if_icmp .le 5, 3, 13), (11, .iconst (-1), 1, 0), (12, .ireturn, 1, 0), (13, .iconst 0, 1, 0), (14, .istore_n 2, 1, 0), (15, .iconst 0, 1, 0), (16, .istore_n 3, 1, 0)]
theorem mk103_0 : (mc103_0).all (m_okI prog_8_method_38_code) = true := by decide +kernel
def mc103_1 : List (Nat × Instr × Nat × Nat) := [(17, .iload_n 3, 1, 0), (18, .sipush 576, 3, 0), (21, .if_icmp .ge 27, 3, 48), (24, .aload_n 0, 1, 0), (25, .iload_n 3, 1, 0), (26, .invokevirtual 173, 3, 0), (29, .ifCond .eq 13, 3, 42), (32, .aload_n 0, 1, 0), (33, .getfield 41, 3, 0), (36, .iload_n 2, 1, 0), (37, .iload_n 3, 1, 0), (38, .iastore, 1, 0)]
theorem mk103_1 : (mc103_1).all (m_okI prog_8_method_38_code) = true := by decide +kernel
def mc103_2 : List (Nat × Instr × Nat × Nat) := [(39, .iinc 2 1, 3, 0), (42, .iinc 3 1, 3, 0), (45, .goto (-28), 3, 17), (48, .iconst 1, 1, 0), (49, .iload_n 1, 1, 0), (50, .ishl, 1, 0), (51, .iconst 1, 1, 0), (52, .isub, 1, 0), (53, .istore_n 3, 1, 0), (54, .iconst 1, 1, 0), (55, .istore 4, 2, 0), (57, .iload 4, 2, 0)]
theorem mk103_2 : (mc103_2).all (m_okI prog_8_method_38_code) = true := by decide +kernel
def mc103_3 : List (Nat × Instr × Nat × Nat) := [(59, .iload_n 3, 1, 0), (60, .if_icmp .gt 18, 3, 78), (63, .aload_n 0, 1, 0), (64, .getfield 78, 3, 0), (67, .iload 4, 2, 0), (69, .ldc 145, 2, 0), (71, .iastore, 1, 0), (72, .iinc 4 1, 3, 0), (75, .goto (-18), 3, 57), (78, .aload_n 0, 1, 0), (79, .getfield 78, 3, 0), (82, .iconst 0, 1, 0)]
theorem mk103_3 : (mc103_3).all (m_okI prog_8_method_38_code) = true := by decide +kernel
def mc103_4 : List (Nat × Instr × Nat × Nat) := [(83, .iconst 0, 1, 0), (84, .iastore, 1, 0), (85, .iconst 0, 1, 0), (86, .istore 4, 2, 0), (88, .iload 4, 2, 0), (90, .iload_n 3, 1, 0), (91, .if_icmp .gt 127, 3, 218), (94, .iconst 0, 1, 0), (95, .istore 5, 2, 0), (97, .iload 5, 2, 0), (99, .sipush 576, 3, 0), (102, .if_icmp .ge 110, 3, 212)]
theorem mk103_4 : (mc103_4).all (m_okI prog_8_method_38_code) = true := by decide +kernel
def mc103_5 : List (Nat × Instr × Nat × Nat) := [(105, .aload_n 0, 1, 0), (106, .getfield 78, 3, 0), (109, .iload 4, 2, 0), (111, .iaload, 1, 0), (112, .ldc 145, 2, 0), (114, .if_icmp .ge 98, 3, 212), (117, .iload 4, 2, 0), (119, .iload_n 3, 1, 0), (120, .if_icmp .ge 92, 3, 212), (123, .aload_n 0, 1, 0), (124, .bipush 8, 2, 0), (126, .iload 5, 2, 0)]
theorem mk103_5 : (mc103_5).all (m_okI prog_8_method_38_code) = true := by decide +kernel
def mc103_6 : List (Nat × Instr × Nat × Nat) := [(128, .invokevirtual 135, 3, 0), (131, .ifCond .ge 7, 3, 138), (134, .iconst 0, 1, 0), (135, .goto 10, 3, 145), (138, .aload_n 0, 1, 0), (139, .iload 5, 2, 0), (141, .iload_n 1, 1, 0), (142, .invokevirtual 180, 3, 0), (145, .istore 6, 2, 0), (147, .iload 4, 2, 0), (149, .iload 6, 2, 0), (151, .ior, 1, 0)]
theorem mk103_6 : (mc103_6).all (m_okI prog_8_method_38_code) = true := by decide +kernel
def mc103_7 : List (Nat × Instr × Nat × Nat) := [(152, .istore 7, 2, 0), (154, .aload_n 0, 1, 0), (155, .getfield 78, 3, 0), (158, .iload 7, 2, 0), (160, .iload 7, 2, 0), (162, .iload 4, 2, 0), (164, .if_icmp .eq 34, 3, 198), (167, .aload_n 0, 1, 0), (168, .getfield 78, 3, 0), (171, .iload 4, 2, 0), (173, .iaload, 1, 0), (174, .iconst 1, 1, 0)]
theorem mk103_7 : (mc103_7).all (m_okI prog_8_method_38_code) = true := by decide +kernel
def mc103_8 : List (Nat × Instr × Nat × Nat) := [(175, .iadd, 1, 0), (176, .aload_n 0, 1, 0), (177, .getfield 78, 3, 0), (180, .iload 7, 2, 0), (182, .iaload, 1, 0), (183, .if_icmp .ge 15, 3, 198), (186, .aload_n 0, 1, 0), (187, .getfield 78, 3, 0), (190, .iload 4, 2, 0), (192, .iaload, 1, 0), (193, .iconst 1, 1, 0), (194, .iadd, 1, 0)]
theorem mk103_8 : (mc103_8).all (m_okI prog_8_method_38_code) = true := by decide +kernel
def mc103_9 : List (Nat × Instr × Nat × Nat) := [(195, .goto 10, 3, 205), (198, .aload_n 0, 1, 0), (199, .getfield 78, 3, 0), (202, .iload 7, 2, 0), (204, .iaload, 1, 0), (205, .iastore, 1, 0), (206, .iinc 5 1, 3, 0), (209, .goto (-112), 3, 97), (212, .iinc 4 1, 3, 0), (215, .goto (-127), 3, 88), (218, .aload_n 0, 1, 0), (219, .getfield 78, 3, 0)]
theorem mk103_9 : (mc103_9).all (m_okI prog_8_method_38_code) = true := by decide +kernel
def mc103_10 : List (Nat × Instr × Nat × Nat) := [(222, .iload_n 3, 1, 0), (223, .iaload, 1, 0), (224, .ireturn, 1, 0)]
theorem mk103_10 : (mc103_10).all (m_okI prog_8_method_38_code) = true := by decide +kernel
def mc103 : List (Nat × List (Nat × Instr × Nat × Nat)) := [(17, mc103_0), (39, mc103_1), (58, mc103_2), (83, mc103_3), (103, mc103_4), (127, mc103_5), (152, mc103_6), (175, mc103_7), (195, mc103_8), (220, mc103_9), (225, mc103_10)]
theorem mk103 : ∀ c ∈ mc103, c.2.all (m_okI prog_8_method_38_code) = true := by
  simp only [mc103, List.forall_mem_cons, List.not_mem_nil, false_implies, implies_true, and_true]
  exact ⟨mk103_0, mk103_1, mk103_2, mk103_3, mk103_4, mk103_5, mk103_6, mk103_7, mk103_8, mk103_9, mk103_10⟩
/-- EscapeCellsModel.shownBy(II)I -/
def mc104_0 : List (Nat × Instr × Nat × Nat) := [(0, .iconst 0, 1, 0), (1, .istore_n 3, 1, 0), (2, .iconst 0, 1, 0), (3, .istore 4, 2, 0), (5, .iload 4, 2, 0), (7, .iload_n 2, 1, 0), (8, .if_icmp .ge 35, 3, 43), (11, .iload_n 3, 1, 0), (12, .aload_n 0, 1, 0), (13, .iload_n 1, 1, 0), (14, .aload_n 0, 1, 0), (15, .getfield 41, 3, 0)]
theorem mk104_0 : (mc104_0).all (m_okI prog_8_method_39_code) = true := by decide +kernel
def mc104_1 : List (Nat × Instr × Nat × Nat) := [(18, .iload 4, 2, 0), (20, .iaload, 1, 0), (21, .invokevirtual 183, 3, 0), (24, .ifCond .eq 10, 3, 34), (27, .iconst 1, 1, 0), (28, .iload 4, 2, 0), (30, .ishl, 1, 0), (31, .goto 4, 3, 35), (34, .iconst 0, 1, 0), (35, .ior, 1, 0), (36, .istore_n 3, 1, 0), (37, .iinc 4 1, 3, 0)]
theorem mk104_1 : (mc104_1).all (m_okI prog_8_method_39_code) = true := by decide +kernel
def mc104_2 : List (Nat × Instr × Nat × Nat) := [(40, .goto (-35), 3, 5), (43, .iload_n 3, 1, 0), (44, .ireturn, 1, 0)]
theorem mk104_2 : (mc104_2).all (m_okI prog_8_method_39_code) = true := by decide +kernel
def mc104 : List (Nat × List (Nat × Instr × Nat × Nat)) := [(16, mc104_0), (38, mc104_1), (45, mc104_2)]
theorem mk104 : ∀ c ∈ mc104, c.2.all (m_okI prog_8_method_39_code) = true := by
  simp only [mc104, List.forall_mem_cons, List.not_mem_nil, false_implies, implies_true, and_true]
  exact ⟨mk104_0, mk104_1, mk104_2⟩
end
section
/-- EscapeCellsLaw.cell([II)I -/
def mc105_0 : List (Nat × Instr × Nat × Nat) := [(0, .iload_n 1, 1, 0), (1, .aload_n 0, 1, 0), (2, .arraylength, 1, 0), (3, .if_icmp .ge 9, 3, 12), (6, .aload_n 0, 1, 0), (7, .iload_n 1, 1, 0), (8, .iaload, 1, 0), (9, .goto 4, 3, 13), (12, .iconst 0, 1, 0), (13, .ireturn, 1, 0)]
theorem mk105_0 : (mc105_0).all (m_okI method_2_code) = true := by decide +kernel
def mc105 : List (Nat × List (Nat × Instr × Nat × Nat)) := [(14, mc105_0)]
theorem mk105 : ∀ c ∈ mc105, c.2.all (m_okI method_2_code) = true := by
  simp only [mc105, List.forall_mem_cons, List.not_mem_nil, false_implies, implies_true, and_true]
  exact mk105_0
/-- EscapeCellsLaw.wall(LEscapeCells;IIZ[J)I -/
def mc106_0 : List (Nat × Instr × Nat × Nat) := [(0, .aload 4, 2, 0), (2, .iconst 0, 1, 0), (3, .aload_n 0, 1, 0), (4, .iload_n 1, 1, 0), (5, .iload_n 2, 1, 0), (6, .iload_n 3, 1, 0), (7, .invokevirtual 7, 3, 0), (10, .ifCond .eq 7, 3, 17), (13, .lconst 1, 1, 0), (14, .goto 4, 3, 18), (17, .lconst 0, 1, 0), (18, .lastore, 1, 0)]
theorem mk106_0 : (mc106_0).all (m_okI method_3_code) = true := by decide +kernel
def mc106_1 : List (Nat × Instr × Nat × Nat) := [(19, .goto 11, 3, 30), (22, .astore 5, 2, 0), (24, .iconst 1, 1, 0), (25, .ireturn, 1, 0), (26, .astore 5, 2, 0), (28, .iconst 2, 1, 0), (29, .ireturn, 1, 0), (30, .iconst 0, 1, 0), (31, .ireturn, 1, 0)]
theorem mk106_1 : (mc106_1).all (m_okI method_3_code) = true := by decide +kernel
def mc106 : List (Nat × List (Nat × Instr × Nat × Nat)) := [(19, mc106_0), (32, mc106_1)]
theorem mk106 : ∀ c ∈ mc106, c.2.all (m_okI method_3_code) = true := by
  simp only [mc106, List.forall_mem_cons, List.not_mem_nil, false_implies, implies_true, and_true]
  exact ⟨mk106_0, mk106_1⟩
/-- EscapeCellsLaw.exit(LEscapeCells;III[J)I -/
def mc107_0 : List (Nat × Instr × Nat × Nat) := [(0, .aload 4, 2, 0), (2, .iconst 0, 1, 0), (3, .aload_n 0, 1, 0), (4, .iload_n 1, 1, 0), (5, .iload_n 2, 1, 0), (6, .iload_n 3, 1, 0), (7, .invokevirtual 17, 3, 0), (10, .i2l, 1, 0), (11, .lastore, 1, 0), (12, .goto 11, 3, 23), (15, .astore 5, 2, 0), (17, .iconst 1, 1, 0)]
theorem mk107_0 : (mc107_0).all (m_okI method_4_code) = true := by decide +kernel
def mc107_1 : List (Nat × Instr × Nat × Nat) := [(18, .ireturn, 1, 0), (19, .astore 5, 2, 0), (21, .iconst 2, 1, 0), (22, .ireturn, 1, 0), (23, .iconst 0, 1, 0), (24, .ireturn, 1, 0)]
theorem mk107_1 : (mc107_1).all (m_okI method_4_code) = true := by decide +kernel
def mc107 : List (Nat × List (Nat × Instr × Nat × Nat)) := [(18, mc107_0), (25, mc107_1)]
theorem mk107 : ∀ c ∈ mc107, c.2.all (m_okI method_4_code) = true := by
  simp only [mc107, List.forall_mem_cons, List.not_mem_nil, false_implies, implies_true, and_true]
  exact ⟨mk107_0, mk107_1⟩
/-- EscapeCellsLaw.door(LEscapeCells;III)I -/
def mc108_0 : List (Nat × Instr × Nat × Nat) := [(0, .aload_n 0, 1, 0), (1, .iload_n 1, 1, 0), (2, .iload_n 2, 1, 0), (3, .iload_n 3, 1, 0), (4, .invokevirtual 21, 3, 0), (7, .goto 11, 3, 18), (10, .astore 4, 2, 0), (12, .iconst 1, 1, 0), (13, .ireturn, 1, 0), (14, .astore 4, 2, 0), (16, .iconst 2, 1, 0), (17, .ireturn, 1, 0)]
theorem mk108_0 : (mc108_0).all (m_okI method_5_code) = true := by decide +kernel
def mc108_1 : List (Nat × Instr × Nat × Nat) := [(18, .iconst 0, 1, 0), (19, .ireturn, 1, 0)]
theorem mk108_1 : (mc108_1).all (m_okI method_5_code) = true := by decide +kernel
def mc108 : List (Nat × List (Nat × Instr × Nat × Nat)) := [(18, mc108_0), (20, mc108_1)]
theorem mk108 : ∀ c ∈ mc108, c.2.all (m_okI method_5_code) = true := by
  simp only [mc108, List.forall_mem_cons, List.not_mem_nil, false_implies, implies_true, and_true]
  exact ⟨mk108_0, mk108_1⟩
/-- EscapeCellsLaw.smoke(LEscapeCells;III[J)I -/
def mc109_0 : List (Nat × Instr × Nat × Nat) := [(0, .aload 4, 2, 0), (2, .iconst 0, 1, 0), (3, .aload_n 0, 1, 0), (4, .iload_n 1, 1, 0), (5, .iload_n 2, 1, 0), (6, .iload_n 3, 1, 0), (7, .invokevirtual 25, 3, 0), (10, .i2l, 1, 0), (11, .lastore, 1, 0), (12, .goto 7, 3, 19), (15, .astore 5, 2, 0), (17, .iconst 1, 1, 0)]
theorem mk109_0 : (mc109_0).all (m_okI method_6_code) = true := by decide +kernel
def mc109_1 : List (Nat × Instr × Nat × Nat) := [(18, .ireturn, 1, 0), (19, .iconst 0, 1, 0), (20, .ireturn, 1, 0)]
theorem mk109_1 : (mc109_1).all (m_okI method_6_code) = true := by decide +kernel
def mc109 : List (Nat × List (Nat × Instr × Nat × Nat)) := [(18, mc109_0), (21, mc109_1)]
theorem mk109 : ∀ c ∈ mc109, c.2.all (m_okI method_6_code) = true := by
  simp only [mc109, List.forall_mem_cons, List.not_mem_nil, false_implies, implies_true, and_true]
  exact ⟨mk109_0, mk109_1⟩
/-- EscapeCellsLaw.person(LEscapeCells;IIII[J)I -/
def mc110_0 : List (Nat × Instr × Nat × Nat) := [(0, .aload 5, 2, 0), (2, .iconst 0, 1, 0), (3, .aload_n 0, 1, 0), (4, .iload_n 1, 1, 0), (5, .iload_n 2, 1, 0), (6, .iload_n 3, 1, 0), (7, .iload 4, 2, 0), (9, .invokevirtual 28, 3, 0), (12, .i2l, 1, 0), (13, .lastore, 1, 0), (14, .goto 11, 3, 25), (17, .astore 6, 2, 0)]
theorem mk110_0 : (mc110_0).all (m_okI method_7_code) = true := by decide +kernel
def mc110_1 : List (Nat × Instr × Nat × Nat) := [(19, .iconst 1, 1, 0), (20, .ireturn, 1, 0), (21, .astore 6, 2, 0), (23, .iconst 2, 1, 0), (24, .ireturn, 1, 0), (25, .iconst 0, 1, 0), (26, .ireturn, 1, 0)]
theorem mk110_1 : (mc110_1).all (m_okI method_7_code) = true := by decide +kernel
def mc110 : List (Nat × List (Nat × Instr × Nat × Nat)) := [(18, mc110_0), (27, mc110_1)]
theorem mk110 : ∀ c ∈ mc110, c.2.all (m_okI method_7_code) = true := by
  simp only [mc110, List.forall_mem_cons, List.not_mem_nil, false_implies, implies_true, and_true]
  exact ⟨mk110_0, mk110_1⟩
/-- EscapeCellsLaw.habit(LEscapeCells;II[J)I -/
def mc111_0 : List (Nat × Instr × Nat × Nat) := [(0, .aload_n 3, 1, 0), (1, .iconst 0, 1, 0), (2, .aload_n 0, 1, 0), (3, .iload_n 1, 1, 0), (4, .iload_n 2, 1, 0), (5, .invokevirtual 32, 3, 0), (8, .i2l, 1, 0), (9, .lastore, 1, 0), (10, .goto 7, 3, 17), (13, .astore 4, 2, 0), (15, .iconst 1, 1, 0), (16, .ireturn, 1, 0)]
theorem mk111_0 : (mc111_0).all (m_okI method_8_code) = true := by decide +kernel
def mc111_1 : List (Nat × Instr × Nat × Nat) := [(17, .iconst 0, 1, 0), (18, .ireturn, 1, 0)]
theorem mk111_1 : (mc111_1).all (m_okI method_8_code) = true := by decide +kernel
def mc111 : List (Nat × List (Nat × Instr × Nat × Nat)) := [(17, mc111_0), (19, mc111_1)]
theorem mk111 : ∀ c ∈ mc111, c.2.all (m_okI method_8_code) = true := by
  simp only [mc111, List.forall_mem_cons, List.not_mem_nil, false_implies, implies_true, and_true]
  exact ⟨mk111_0, mk111_1⟩
/-- EscapeCellsLaw.walk(LEscapeCells;III[J)I -/
def mc112_0 : List (Nat × Instr × Nat × Nat) := [(0, .aload 4, 2, 0), (2, .iconst 0, 1, 0), (3, .aload_n 0, 1, 0), (4, .iload_n 1, 1, 0), (5, .iload_n 2, 1, 0), (6, .iload_n 3, 1, 0), (7, .invokevirtual 36, 3, 0), (10, .i2l, 1, 0), (11, .lastore, 1, 0), (12, .goto 7, 3, 19), (15, .astore 5, 2, 0), (17, .iconst 1, 1, 0)]
theorem mk112_0 : (mc112_0).all (m_okI method_9_code) = true := by decide +kernel
def mc112_1 : List (Nat × Instr × Nat × Nat) := [(18, .ireturn, 1, 0), (19, .iconst 0, 1, 0), (20, .ireturn, 1, 0)]
theorem mk112_1 : (mc112_1).all (m_okI method_9_code) = true := by decide +kernel
def mc112 : List (Nat × List (Nat × Instr × Nat × Nat)) := [(18, mc112_0), (21, mc112_1)]
theorem mk112 : ∀ c ∈ mc112, c.2.all (m_okI method_9_code) = true := by
  simp only [mc112, List.forall_mem_cons, List.not_mem_nil, false_implies, implies_true, and_true]
  exact ⟨mk112_0, mk112_1⟩
/-- EscapeCellsLaw.told(LEscapeCells;II[J)I -/
def mc113_0 : List (Nat × Instr × Nat × Nat) := [(0, .aload_n 3, 1, 0), (1, .iconst 0, 1, 0), (2, .aload_n 0, 1, 0), (3, .iload_n 1, 1, 0), (4, .iload_n 2, 1, 0), (5, .invokevirtual 39, 3, 0), (8, .i2l, 1, 0), (9, .lastore, 1, 0), (10, .goto 11, 3, 21), (13, .astore 4, 2, 0), (15, .iconst 1, 1, 0), (16, .ireturn, 1, 0)]
theorem mk113_0 : (mc113_0).all (m_okI method_10_code) = true := by decide +kernel
def mc113_1 : List (Nat × Instr × Nat × Nat) := [(17, .astore 4, 2, 0), (19, .iconst 2, 1, 0), (20, .ireturn, 1, 0), (21, .iconst 0, 1, 0), (22, .ireturn, 1, 0)]
theorem mk113_1 : (mc113_1).all (m_okI method_10_code) = true := by decide +kernel
def mc113 : List (Nat × List (Nat × Instr × Nat × Nat)) := [(17, mc113_0), (23, mc113_1)]
theorem mk113 : ∀ c ∈ mc113, c.2.all (m_okI method_10_code) = true := by
  simp only [mc113, List.forall_mem_cons, List.not_mem_nil, false_implies, implies_true, and_true]
  exact ⟨mk113_0, mk113_1⟩
/-- EscapeCellsLaw.at(LEscapeCells;III[J)I -/
def mc114_0 : List (Nat × Instr × Nat × Nat) := [(0, .aload 4, 2, 0), (2, .iconst 0, 1, 0), (3, .aload_n 0, 1, 0), (4, .iload_n 1, 1, 0), (5, .iload_n 2, 1, 0), (6, .iload_n 3, 1, 0), (7, .invokevirtual 42, 3, 0), (10, .i2l, 1, 0), (11, .lastore, 1, 0), (12, .goto 11, 3, 23), (15, .astore 5, 2, 0), (17, .iconst 1, 1, 0)]
theorem mk114_0 : (mc114_0).all (m_okI method_11_code) = true := by decide +kernel
def mc114_1 : List (Nat × Instr × Nat × Nat) := [(18, .ireturn, 1, 0), (19, .astore 5, 2, 0), (21, .iconst 2, 1, 0), (22, .ireturn, 1, 0), (23, .iconst 0, 1, 0), (24, .ireturn, 1, 0)]
theorem mk114_1 : (mc114_1).all (m_okI method_11_code) = true := by decide +kernel
def mc114 : List (Nat × List (Nat × Instr × Nat × Nat)) := [(18, mc114_0), (25, mc114_1)]
theorem mk114 : ∀ c ∈ mc114, c.2.all (m_okI method_11_code) = true := by
  simp only [mc114, List.forall_mem_cons, List.not_mem_nil, false_implies, implies_true, and_true]
  exact ⟨mk114_0, mk114_1⟩
/-- EscapeCellsLaw.through(LEscapeCells;II[J)I -/
def mc115_0 : List (Nat × Instr × Nat × Nat) := [(0, .aload_n 3, 1, 0), (1, .iconst 0, 1, 0), (2, .aload_n 0, 1, 0), (3, .iload_n 1, 1, 0), (4, .iload_n 2, 1, 0), (5, .invokevirtual 45, 3, 0), (8, .i2l, 1, 0), (9, .lastore, 1, 0), (10, .goto 11, 3, 21), (13, .astore 4, 2, 0), (15, .iconst 1, 1, 0), (16, .ireturn, 1, 0)]
theorem mk115_0 : (mc115_0).all (m_okI method_12_code) = true := by decide +kernel
def mc115_1 : List (Nat × Instr × Nat × Nat) := [(17, .astore 4, 2, 0), (19, .iconst 2, 1, 0), (20, .ireturn, 1, 0), (21, .iconst 0, 1, 0), (22, .ireturn, 1, 0)]
theorem mk115_1 : (mc115_1).all (m_okI method_12_code) = true := by decide +kernel
def mc115 : List (Nat × List (Nat × Instr × Nat × Nat)) := [(17, mc115_0), (23, mc115_1)]
theorem mk115 : ∀ c ∈ mc115, c.2.all (m_okI method_12_code) = true := by
  simp only [mc115, List.forall_mem_cons, List.not_mem_nil, false_implies, implies_true, and_true]
  exact ⟨mk115_0, mk115_1⟩
/-- EscapeCellsLaw.left(LEscapeCells;I[J)I -/
def mc116_0 : List (Nat × Instr × Nat × Nat) := [(0, .aload_n 2, 1, 0), (1, .iconst 0, 1, 0), (2, .aload_n 0, 1, 0), (3, .iload_n 1, 1, 0), (4, .invokevirtual 48, 3, 0), (7, .i2l, 1, 0), (8, .lastore, 1, 0), (9, .goto 9, 3, 18), (12, .astore_n 3, 1, 0), (13, .iconst 1, 1, 0), (14, .ireturn, 1, 0), (15, .astore_n 3, 1, 0)]
theorem mk116_0 : (mc116_0).all (m_okI method_13_code) = true := by decide +kernel
def mc116_1 : List (Nat × Instr × Nat × Nat) := [(16, .iconst 2, 1, 0), (17, .ireturn, 1, 0), (18, .iconst 0, 1, 0), (19, .ireturn, 1, 0)]
theorem mk116_1 : (mc116_1).all (m_okI method_13_code) = true := by decide +kernel
def mc116 : List (Nat × List (Nat × Instr × Nat × Nat)) := [(16, mc116_0), (20, mc116_1)]
theorem mk116 : ∀ c ∈ mc116, c.2.all (m_okI method_13_code) = true := by
  simp only [mc116, List.forall_mem_cons, List.not_mem_nil, false_implies, implies_true, and_true]
  exact ⟨mk116_0, mk116_1⟩
end
section
/-- EscapeCellsLaw.law([I)Z -/
def mc117_0 : List (Nat × Instr × Nat × Nat) := [(0, .new 8, 3, 0), (3, .dup, 1, 0), (4, .aload_n 0, 1, 0), (5, .iconst 0, 1, 0), (6, .invokestatic 52, 3, 0), (9, .aload_n 0, 1, 0), (10, .iconst 1, 1, 0), (11, .invokestatic 52, 3, 0), (14, .invokespecial 58, 3, 0), (17, .astore_n 1, 1, 0), (18, .new 61, 3, 0), (21, .dup, 1, 0)]
theorem mk117_0 : (mc117_0).all (m_okI code) = true := by decide +kernel
def mc117_1 : List (Nat × Instr × Nat × Nat) := [(22, .aload_n 0, 1, 0), (23, .iconst 0, 1, 0), (24, .invokestatic 52, 3, 0), (27, .aload_n 0, 1, 0), (28, .iconst 1, 1, 0), (29, .invokestatic 52, 3, 0), (32, .invokespecial 63, 3, 0), (35, .astore_n 2, 1, 0), (36, .iconst 1, 1, 0), (37, .newarray .long, 2, 0), (39, .astore_n 3, 1, 0), (40, .iconst 2, 1, 0)]
theorem mk117_1 : (mc117_1).all (m_okI code) = true := by decide +kernel
def mc117_2 : List (Nat × Instr × Nat × Nat) := [(41, .istore 4, 2, 0), (43, .iload 4, 2, 0), (45, .aload_n 0, 1, 0), (46, .arraylength, 1, 0), (47, .iconst 5, 1, 0), (48, .isub, 1, 0), (49, .if_icmp .gt 976, 3, 1025), (52, .aload_n 0, 1, 0), (53, .iload 4, 2, 0), (55, .iaload, 1, 0), (56, .bipush 15, 2, 0), (58, .iand, 1, 0)]
theorem mk117_2 : (mc117_2).all (m_okI code) = true := by decide +kernel
def mc117_3 : List (Nat × Instr × Nat × Nat) := [(59, .tableswitch 960 0 14 #[73, 176, 256, 316, 396, 488, 556, 569, 649, 662, 730, 810, 878, 934, 947], 73, 0), (132, .aload_n 1, 1, 0), (133, .aload_n 0, 1, 0), (134, .iload 4, 2, 0), (136, .iconst 1, 1, 0), (137, .iadd, 1, 0), (138, .iaload, 1, 0), (139, .aload_n 0, 1, 0), (140, .iload 4, 2, 0), (142, .iconst 2, 1, 0), (143, .iadd, 1, 0), (144, .iaload, 1, 0)]
theorem mk117_3 : (mc117_3).all (m_okI code) = true := by decide +kernel
def mc117_4 : List (Nat × Instr × Nat × Nat) := [(145, .aload_n 0, 1, 0), (146, .iload 4, 2, 0), (148, .iconst 3, 1, 0), (149, .iadd, 1, 0), (150, .iaload, 1, 0), (151, .ifCond .eq 7, 3, 158), (154, .iconst 1, 1, 0), (155, .goto 4, 3, 159), (158, .iconst 0, 1, 0), (159, .aload_n 3, 1, 0), (160, .invokestatic 64, 3, 0), (163, .istore 5, 2, 0)]
theorem mk117_4 : (mc117_4).all (m_okI code) = true := by decide +kernel
def mc117_5 : List (Nat × Instr × Nat × Nat) := [(165, .aload_n 2, 1, 0), (166, .aload_n 0, 1, 0), (167, .iload 4, 2, 0), (169, .iconst 1, 1, 0), (170, .iadd, 1, 0), (171, .iaload, 1, 0), (172, .aload_n 0, 1, 0), (173, .iload 4, 2, 0), (175, .iconst 2, 1, 0), (176, .iadd, 1, 0), (177, .iaload, 1, 0), (178, .aload_n 0, 1, 0)]
theorem mk117_5 : (mc117_5).all (m_okI code) = true := by decide +kernel
def mc117_6 : List (Nat × Instr × Nat × Nat) := [(179, .iload 4, 2, 0), (181, .iconst 3, 1, 0), (182, .iadd, 1, 0), (183, .iaload, 1, 0), (184, .ifCond .eq 7, 3, 191), (187, .iconst 1, 1, 0), (188, .goto 4, 3, 192), (191, .iconst 0, 1, 0), (192, .invokevirtual 67, 3, 0), (195, .istore 6, 2, 0), (197, .aload_n 2, 1, 0), (198, .invokevirtual 68, 3, 0)]
theorem mk117_6 : (mc117_6).all (m_okI code) = true := by decide +kernel
def mc117_7 : List (Nat × Instr × Nat × Nat) := [(201, .iload 5, 2, 0), (203, .if_icmp .eq 5, 3, 208), (206, .iconst 0, 1, 0), (207, .ireturn, 1, 0), (208, .iload 5, 2, 0), (210, .ifCond .ne 22, 3, 232), (213, .aload_n 3, 1, 0), (214, .iconst 0, 1, 0), (215, .laload, 1, 0), (216, .iload 6, 2, 0), (218, .ifCond .eq 7, 3, 225), (221, .lconst 1, 1, 0)]
theorem mk117_7 : (mc117_7).all (m_okI code) = true := by decide +kernel
def mc117_8 : List (Nat × Instr × Nat × Nat) := [(222, .goto 4, 3, 226), (225, .lconst 0, 1, 0), (226, .lcmp, 1, 0), (227, .ifCond .eq 5, 3, 232), (230, .iconst 0, 1, 0), (231, .ireturn, 1, 0), (232, .goto 787, 3, 1019), (235, .aload_n 1, 1, 0), (236, .aload_n 0, 1, 0), (237, .iload 4, 2, 0), (239, .iconst 1, 1, 0), (240, .iadd, 1, 0)]
theorem mk117_8 : (mc117_8).all (m_okI code) = true := by decide +kernel
def mc117_9 : List (Nat × Instr × Nat × Nat) := [(241, .iaload, 1, 0), (242, .aload_n 0, 1, 0), (243, .iload 4, 2, 0), (245, .iconst 2, 1, 0), (246, .iadd, 1, 0), (247, .iaload, 1, 0), (248, .aload_n 0, 1, 0), (249, .iload 4, 2, 0), (251, .iconst 3, 1, 0), (252, .iadd, 1, 0), (253, .iaload, 1, 0), (254, .aload_n 3, 1, 0)]
theorem mk117_9 : (mc117_9).all (m_okI code) = true := by decide +kernel
def mc117_10 : List (Nat × Instr × Nat × Nat) := [(255, .invokestatic 72, 3, 0), (258, .istore 5, 2, 0), (260, .aload_n 2, 1, 0), (261, .aload_n 0, 1, 0), (262, .iload 4, 2, 0), (264, .iconst 1, 1, 0), (265, .iadd, 1, 0), (266, .iaload, 1, 0), (267, .aload_n 0, 1, 0), (268, .iload 4, 2, 0), (270, .iconst 2, 1, 0), (271, .iadd, 1, 0)]
theorem mk117_10 : (mc117_10).all (m_okI code) = true := by decide +kernel
def mc117_11 : List (Nat × Instr × Nat × Nat) := [(272, .iaload, 1, 0), (273, .aload_n 0, 1, 0), (274, .iload 4, 2, 0), (276, .iconst 3, 1, 0), (277, .iadd, 1, 0), (278, .iaload, 1, 0), (279, .invokevirtual 75, 3, 0), (282, .istore 6, 2, 0), (284, .aload_n 2, 1, 0), (285, .invokevirtual 68, 3, 0), (288, .iload 5, 2, 0), (290, .if_icmp .eq 5, 3, 295)]
theorem mk117_11 : (mc117_11).all (m_okI code) = true := by decide +kernel
def mc117_12 : List (Nat × Instr × Nat × Nat) := [(293, .iconst 0, 1, 0), (294, .ireturn, 1, 0), (295, .iload 5, 2, 0), (297, .ifCond .ne 15, 3, 312), (300, .aload_n 3, 1, 0), (301, .iconst 0, 1, 0), (302, .laload, 1, 0), (303, .iload 6, 2, 0), (305, .i2l, 1, 0), (306, .lcmp, 1, 0), (307, .ifCond .eq 5, 3, 312), (310, .iconst 0, 1, 0)]
theorem mk117_12 : (mc117_12).all (m_okI code) = true := by decide +kernel
def mc117_13 : List (Nat × Instr × Nat × Nat) := [(311, .ireturn, 1, 0), (312, .goto 707, 3, 1019), (315, .aload_n 1, 1, 0), (316, .aload_n 0, 1, 0), (317, .iload 4, 2, 0), (319, .iconst 1, 1, 0), (320, .iadd, 1, 0), (321, .iaload, 1, 0), (322, .aload_n 0, 1, 0), (323, .iload 4, 2, 0), (325, .iconst 2, 1, 0), (326, .iadd, 1, 0)]
theorem mk117_13 : (mc117_13).all (m_okI code) = true := by decide +kernel
def mc117_14 : List (Nat × Instr × Nat × Nat) := [(327, .iaload, 1, 0), (328, .aload_n 0, 1, 0), (329, .iload 4, 2, 0), (331, .iconst 3, 1, 0), (332, .iadd, 1, 0), (333, .iaload, 1, 0), (334, .invokestatic 76, 3, 0), (337, .istore 5, 2, 0), (339, .aload_n 2, 1, 0), (340, .aload_n 0, 1, 0), (341, .iload 4, 2, 0), (343, .iconst 1, 1, 0)]
theorem mk117_14 : (mc117_14).all (m_okI code) = true := by decide +kernel
def mc117_15 : List (Nat × Instr × Nat × Nat) := [(344, .iadd, 1, 0), (345, .iaload, 1, 0), (346, .aload_n 0, 1, 0), (347, .iload 4, 2, 0), (349, .iconst 2, 1, 0), (350, .iadd, 1, 0), (351, .iaload, 1, 0), (352, .aload_n 0, 1, 0), (353, .iload 4, 2, 0), (355, .iconst 3, 1, 0), (356, .iadd, 1, 0), (357, .iaload, 1, 0)]
theorem mk117_15 : (mc117_15).all (m_okI code) = true := by decide +kernel
def mc117_16 : List (Nat × Instr × Nat × Nat) := [(358, .invokevirtual 79, 3, 0), (361, .aload_n 2, 1, 0), (362, .invokevirtual 68, 3, 0), (365, .iload 5, 2, 0), (367, .if_icmp .eq 5, 3, 372), (370, .iconst 0, 1, 0), (371, .ireturn, 1, 0), (372, .goto 647, 3, 1019), (375, .aload_n 1, 1, 0), (376, .aload_n 0, 1, 0), (377, .iload 4, 2, 0), (379, .iconst 1, 1, 0)]
theorem mk117_16 : (mc117_16).all (m_okI code) = true := by decide +kernel
def mc117_17 : List (Nat × Instr × Nat × Nat) := [(380, .iadd, 1, 0), (381, .iaload, 1, 0), (382, .aload_n 0, 1, 0), (383, .iload 4, 2, 0), (385, .iconst 2, 1, 0), (386, .iadd, 1, 0), (387, .iaload, 1, 0), (388, .aload_n 0, 1, 0), (389, .iload 4, 2, 0), (391, .iconst 3, 1, 0), (392, .iadd, 1, 0), (393, .iaload, 1, 0)]
theorem mk117_17 : (mc117_17).all (m_okI code) = true := by decide +kernel
def mc117_18 : List (Nat × Instr × Nat × Nat) := [(394, .aload_n 3, 1, 0), (395, .invokestatic 80, 3, 0), (398, .istore 5, 2, 0), (400, .aload_n 2, 1, 0), (401, .aload_n 0, 1, 0), (402, .iload 4, 2, 0), (404, .iconst 1, 1, 0), (405, .iadd, 1, 0), (406, .iaload, 1, 0), (407, .aload_n 0, 1, 0), (408, .iload 4, 2, 0), (410, .iconst 2, 1, 0)]
theorem mk117_18 : (mc117_18).all (m_okI code) = true := by decide +kernel
def mc117_19 : List (Nat × Instr × Nat × Nat) := [(411, .iadd, 1, 0), (412, .iaload, 1, 0), (413, .aload_n 0, 1, 0), (414, .iload 4, 2, 0), (416, .iconst 3, 1, 0), (417, .iadd, 1, 0), (418, .iaload, 1, 0), (419, .invokevirtual 82, 3, 0), (422, .istore 6, 2, 0), (424, .aload_n 2, 1, 0), (425, .invokevirtual 68, 3, 0), (428, .iload 5, 2, 0)]
theorem mk117_19 : (mc117_19).all (m_okI code) = true := by decide +kernel
def mc117_20 : List (Nat × Instr × Nat × Nat) := [(430, .if_icmp .eq 5, 3, 435), (433, .iconst 0, 1, 0), (434, .ireturn, 1, 0), (435, .iload 5, 2, 0), (437, .ifCond .ne 15, 3, 452), (440, .aload_n 3, 1, 0), (441, .iconst 0, 1, 0), (442, .laload, 1, 0), (443, .iload 6, 2, 0), (445, .i2l, 1, 0), (446, .lcmp, 1, 0), (447, .ifCond .eq 5, 3, 452)]
theorem mk117_20 : (mc117_20).all (m_okI code) = true := by decide +kernel
def mc117_21 : List (Nat × Instr × Nat × Nat) := [(450, .iconst 0, 1, 0), (451, .ireturn, 1, 0), (452, .goto 567, 3, 1019), (455, .aload_n 1, 1, 0), (456, .aload_n 0, 1, 0), (457, .iload 4, 2, 0), (459, .iconst 1, 1, 0), (460, .iadd, 1, 0), (461, .iaload, 1, 0), (462, .aload_n 0, 1, 0), (463, .iload 4, 2, 0), (465, .iconst 2, 1, 0)]
theorem mk117_21 : (mc117_21).all (m_okI code) = true := by decide +kernel
def mc117_22 : List (Nat × Instr × Nat × Nat) := [(466, .iadd, 1, 0), (467, .iaload, 1, 0), (468, .aload_n 0, 1, 0), (469, .iload 4, 2, 0), (471, .iconst 3, 1, 0), (472, .iadd, 1, 0), (473, .iaload, 1, 0), (474, .aload_n 0, 1, 0), (475, .iload 4, 2, 0), (477, .iconst 4, 1, 0), (478, .iadd, 1, 0), (479, .iaload, 1, 0)]
theorem mk117_22 : (mc117_22).all (m_okI code) = true := by decide +kernel
def mc117_23 : List (Nat × Instr × Nat × Nat) := [(480, .aload_n 3, 1, 0), (481, .invokestatic 83, 3, 0), (484, .istore 5, 2, 0), (486, .aload_n 2, 1, 0), (487, .aload_n 0, 1, 0), (488, .iload 4, 2, 0), (490, .iconst 1, 1, 0), (491, .iadd, 1, 0), (492, .iaload, 1, 0), (493, .aload_n 0, 1, 0), (494, .iload 4, 2, 0), (496, .iconst 2, 1, 0)]
theorem mk117_23 : (mc117_23).all (m_okI code) = true := by decide +kernel
def mc117_24 : List (Nat × Instr × Nat × Nat) := [(497, .iadd, 1, 0), (498, .iaload, 1, 0), (499, .aload_n 0, 1, 0), (500, .iload 4, 2, 0), (502, .iconst 3, 1, 0), (503, .iadd, 1, 0), (504, .iaload, 1, 0), (505, .aload_n 0, 1, 0), (506, .iload 4, 2, 0), (508, .iconst 4, 1, 0), (509, .iadd, 1, 0), (510, .iaload, 1, 0)]
theorem mk117_24 : (mc117_24).all (m_okI code) = true := by decide +kernel
def mc117_25 : List (Nat × Instr × Nat × Nat) := [(511, .invokevirtual 86, 3, 0), (514, .istore 6, 2, 0), (516, .aload_n 2, 1, 0), (517, .invokevirtual 68, 3, 0), (520, .iload 5, 2, 0), (522, .if_icmp .eq 5, 3, 527), (525, .iconst 0, 1, 0), (526, .ireturn, 1, 0), (527, .iload 5, 2, 0), (529, .ifCond .ne 15, 3, 544), (532, .aload_n 3, 1, 0), (533, .iconst 0, 1, 0)]
theorem mk117_25 : (mc117_25).all (m_okI code) = true := by decide +kernel
def mc117_26 : List (Nat × Instr × Nat × Nat) := [(534, .laload, 1, 0), (535, .iload 6, 2, 0), (537, .i2l, 1, 0), (538, .lcmp, 1, 0), (539, .ifCond .eq 5, 3, 544), (542, .iconst 0, 1, 0), (543, .ireturn, 1, 0), (544, .goto 475, 3, 1019), (547, .aload_n 1, 1, 0), (548, .aload_n 0, 1, 0), (549, .iload 4, 2, 0), (551, .iconst 1, 1, 0)]
theorem mk117_26 : (mc117_26).all (m_okI code) = true := by decide +kernel
def mc117_27 : List (Nat × Instr × Nat × Nat) := [(552, .iadd, 1, 0), (553, .iaload, 1, 0), (554, .aload_n 0, 1, 0), (555, .iload 4, 2, 0), (557, .iconst 2, 1, 0), (558, .iadd, 1, 0), (559, .iaload, 1, 0), (560, .aload_n 3, 1, 0), (561, .invokestatic 87, 3, 0), (564, .istore 5, 2, 0), (566, .aload_n 2, 1, 0), (567, .aload_n 0, 1, 0)]
theorem mk117_27 : (mc117_27).all (m_okI code) = true := by decide +kernel
def mc117_28 : List (Nat × Instr × Nat × Nat) := [(568, .iload 4, 2, 0), (570, .iconst 1, 1, 0), (571, .iadd, 1, 0), (572, .iaload, 1, 0), (573, .aload_n 0, 1, 0), (574, .iload 4, 2, 0), (576, .iconst 2, 1, 0), (577, .iadd, 1, 0), (578, .iaload, 1, 0), (579, .invokevirtual 90, 3, 0), (582, .istore 6, 2, 0), (584, .aload_n 2, 1, 0)]
theorem mk117_28 : (mc117_28).all (m_okI code) = true := by decide +kernel
def mc117_29 : List (Nat × Instr × Nat × Nat) := [(585, .invokevirtual 68, 3, 0), (588, .iload 5, 2, 0), (590, .if_icmp .eq 5, 3, 595), (593, .iconst 0, 1, 0), (594, .ireturn, 1, 0), (595, .iload 5, 2, 0), (597, .ifCond .ne 15, 3, 612), (600, .aload_n 3, 1, 0), (601, .iconst 0, 1, 0), (602, .laload, 1, 0), (603, .iload 6, 2, 0), (605, .i2l, 1, 0)]
theorem mk117_29 : (mc117_29).all (m_okI code) = true := by decide +kernel
def mc117_30 : List (Nat × Instr × Nat × Nat) := [(606, .lcmp, 1, 0), (607, .ifCond .eq 5, 3, 612), (610, .iconst 0, 1, 0), (611, .ireturn, 1, 0), (612, .goto 407, 3, 1019), (615, .aload_n 1, 1, 0), (616, .invokevirtual 91, 3, 0), (619, .aload_n 2, 1, 0), (620, .invokevirtual 94, 3, 0), (623, .if_icmp .eq 396, 3, 1019), (626, .iconst 0, 1, 0), (627, .ireturn, 1, 0)]
theorem mk117_30 : (mc117_30).all (m_okI code) = true := by decide +kernel
def mc117_31 : List (Nat × Instr × Nat × Nat) := [(628, .aload_n 1, 1, 0), (629, .aload_n 0, 1, 0), (630, .iload 4, 2, 0), (632, .iconst 1, 1, 0), (633, .iadd, 1, 0), (634, .iaload, 1, 0), (635, .aload_n 0, 1, 0), (636, .iload 4, 2, 0), (638, .iconst 2, 1, 0), (639, .iadd, 1, 0), (640, .iaload, 1, 0), (641, .aload_n 0, 1, 0)]
theorem mk117_31 : (mc117_31).all (m_okI code) = true := by decide +kernel
def mc117_32 : List (Nat × Instr × Nat × Nat) := [(642, .iload 4, 2, 0), (644, .iconst 3, 1, 0), (645, .iadd, 1, 0), (646, .iaload, 1, 0), (647, .aload_n 3, 1, 0), (648, .invokestatic 95, 3, 0), (651, .istore 5, 2, 0), (653, .aload_n 2, 1, 0), (654, .aload_n 0, 1, 0), (655, .iload 4, 2, 0), (657, .iconst 1, 1, 0), (658, .iadd, 1, 0)]
theorem mk117_32 : (mc117_32).all (m_okI code) = true := by decide +kernel
def mc117_33 : List (Nat × Instr × Nat × Nat) := [(659, .iaload, 1, 0), (660, .aload_n 0, 1, 0), (661, .iload 4, 2, 0), (663, .iconst 2, 1, 0), (664, .iadd, 1, 0), (665, .iaload, 1, 0), (666, .aload_n 0, 1, 0), (667, .iload 4, 2, 0), (669, .iconst 3, 1, 0), (670, .iadd, 1, 0), (671, .iaload, 1, 0), (672, .invokevirtual 97, 3, 0)]
theorem mk117_33 : (mc117_33).all (m_okI code) = true := by decide +kernel
def mc117_34 : List (Nat × Instr × Nat × Nat) := [(675, .istore 6, 2, 0), (677, .aload_n 2, 1, 0), (678, .invokevirtual 68, 3, 0), (681, .iload 5, 2, 0), (683, .if_icmp .eq 5, 3, 688), (686, .iconst 0, 1, 0), (687, .ireturn, 1, 0), (688, .iload 5, 2, 0), (690, .ifCond .ne 15, 3, 705), (693, .aload_n 3, 1, 0), (694, .iconst 0, 1, 0), (695, .laload, 1, 0)]
theorem mk117_34 : (mc117_34).all (m_okI code) = true := by decide +kernel
def mc117_35 : List (Nat × Instr × Nat × Nat) := [(696, .iload 6, 2, 0), (698, .i2l, 1, 0), (699, .lcmp, 1, 0), (700, .ifCond .eq 5, 3, 705), (703, .iconst 0, 1, 0), (704, .ireturn, 1, 0), (705, .goto 314, 3, 1019), (708, .aload_n 1, 1, 0), (709, .invokevirtual 98, 3, 0), (712, .aload_n 2, 1, 0), (713, .invokevirtual 101, 3, 0), (716, .if_icmp .eq 303, 3, 1019)]
theorem mk117_35 : (mc117_35).all (m_okI code) = true := by decide +kernel
def mc117_36 : List (Nat × Instr × Nat × Nat) := [(719, .iconst 0, 1, 0), (720, .ireturn, 1, 0), (721, .aload_n 1, 1, 0), (722, .aload_n 0, 1, 0), (723, .iload 4, 2, 0), (725, .iconst 1, 1, 0), (726, .iadd, 1, 0), (727, .iaload, 1, 0), (728, .aload_n 0, 1, 0), (729, .iload 4, 2, 0), (731, .iconst 2, 1, 0), (732, .iadd, 1, 0)]
theorem mk117_36 : (mc117_36).all (m_okI code) = true := by decide +kernel
def mc117_37 : List (Nat × Instr × Nat × Nat) := [(733, .iaload, 1, 0), (734, .aload_n 3, 1, 0), (735, .invokestatic 102, 3, 0), (738, .istore 5, 2, 0), (740, .aload_n 2, 1, 0), (741, .aload_n 0, 1, 0), (742, .iload 4, 2, 0), (744, .iconst 1, 1, 0), (745, .iadd, 1, 0), (746, .iaload, 1, 0), (747, .aload_n 0, 1, 0), (748, .iload 4, 2, 0)]
theorem mk117_37 : (mc117_37).all (m_okI code) = true := by decide +kernel
def mc117_38 : List (Nat × Instr × Nat × Nat) := [(750, .iconst 2, 1, 0), (751, .iadd, 1, 0), (752, .iaload, 1, 0), (753, .invokevirtual 104, 3, 0), (756, .istore 6, 2, 0), (758, .aload_n 2, 1, 0), (759, .invokevirtual 68, 3, 0), (762, .iload 5, 2, 0), (764, .if_icmp .eq 5, 3, 769), (767, .iconst 0, 1, 0), (768, .ireturn, 1, 0), (769, .iload 5, 2, 0)]
theorem mk117_38 : (mc117_38).all (m_okI code) = true := by decide +kernel
def mc117_39 : List (Nat × Instr × Nat × Nat) := [(771, .ifCond .ne 15, 3, 786), (774, .aload_n 3, 1, 0), (775, .iconst 0, 1, 0), (776, .laload, 1, 0), (777, .iload 6, 2, 0), (779, .i2l, 1, 0), (780, .lcmp, 1, 0), (781, .ifCond .eq 5, 3, 786), (784, .iconst 0, 1, 0), (785, .ireturn, 1, 0), (786, .goto 233, 3, 1019), (789, .aload_n 1, 1, 0)]
theorem mk117_39 : (mc117_39).all (m_okI code) = true := by decide +kernel
def mc117_40 : List (Nat × Instr × Nat × Nat) := [(790, .aload_n 0, 1, 0), (791, .iload 4, 2, 0), (793, .iconst 1, 1, 0), (794, .iadd, 1, 0), (795, .iaload, 1, 0), (796, .aload_n 0, 1, 0), (797, .iload 4, 2, 0), (799, .iconst 2, 1, 0), (800, .iadd, 1, 0), (801, .iaload, 1, 0), (802, .aload_n 0, 1, 0), (803, .iload 4, 2, 0)]
theorem mk117_40 : (mc117_40).all (m_okI code) = true := by decide +kernel
def mc117_41 : List (Nat × Instr × Nat × Nat) := [(805, .iconst 3, 1, 0), (806, .iadd, 1, 0), (807, .iaload, 1, 0), (808, .aload_n 3, 1, 0), (809, .invokestatic 105, 3, 0), (812, .istore 5, 2, 0), (814, .aload_n 2, 1, 0), (815, .aload_n 0, 1, 0), (816, .iload 4, 2, 0), (818, .iconst 1, 1, 0), (819, .iadd, 1, 0), (820, .iaload, 1, 0)]
theorem mk117_41 : (mc117_41).all (m_okI code) = true := by decide +kernel
def mc117_42 : List (Nat × Instr × Nat × Nat) := [(821, .aload_n 0, 1, 0), (822, .iload 4, 2, 0), (824, .iconst 2, 1, 0), (825, .iadd, 1, 0), (826, .iaload, 1, 0), (827, .aload_n 0, 1, 0), (828, .iload 4, 2, 0), (830, .iconst 3, 1, 0), (831, .iadd, 1, 0), (832, .iaload, 1, 0), (833, .invokevirtual 107, 3, 0), (836, .istore 6, 2, 0)]
theorem mk117_42 : (mc117_42).all (m_okI code) = true := by decide +kernel
def mc117_43 : List (Nat × Instr × Nat × Nat) := [(838, .aload_n 2, 1, 0), (839, .invokevirtual 68, 3, 0), (842, .iload 5, 2, 0), (844, .if_icmp .eq 5, 3, 849), (847, .iconst 0, 1, 0), (848, .ireturn, 1, 0), (849, .iload 5, 2, 0), (851, .ifCond .ne 15, 3, 866), (854, .aload_n 3, 1, 0), (855, .iconst 0, 1, 0), (856, .laload, 1, 0), (857, .iload 6, 2, 0)]
theorem mk117_43 : (mc117_43).all (m_okI code) = true := by decide +kernel
def mc117_44 : List (Nat × Instr × Nat × Nat) := [(859, .i2l, 1, 0), (860, .lcmp, 1, 0), (861, .ifCond .eq 5, 3, 866), (864, .iconst 0, 1, 0), (865, .ireturn, 1, 0), (866, .goto 153, 3, 1019), (869, .aload_n 1, 1, 0), (870, .aload_n 0, 1, 0), (871, .iload 4, 2, 0), (873, .iconst 1, 1, 0), (874, .iadd, 1, 0), (875, .iaload, 1, 0)]
theorem mk117_44 : (mc117_44).all (m_okI code) = true := by decide +kernel
def mc117_45 : List (Nat × Instr × Nat × Nat) := [(876, .aload_n 0, 1, 0), (877, .iload 4, 2, 0), (879, .iconst 2, 1, 0), (880, .iadd, 1, 0), (881, .iaload, 1, 0), (882, .aload_n 3, 1, 0), (883, .invokestatic 108, 3, 0), (886, .istore 5, 2, 0), (888, .aload_n 2, 1, 0), (889, .aload_n 0, 1, 0), (890, .iload 4, 2, 0), (892, .iconst 1, 1, 0)]
theorem mk117_45 : (mc117_45).all (m_okI code) = true := by decide +kernel
def mc117_46 : List (Nat × Instr × Nat × Nat) := [(893, .iadd, 1, 0), (894, .iaload, 1, 0), (895, .aload_n 0, 1, 0), (896, .iload 4, 2, 0), (898, .iconst 2, 1, 0), (899, .iadd, 1, 0), (900, .iaload, 1, 0), (901, .invokevirtual 110, 3, 0), (904, .istore 6, 2, 0), (906, .aload_n 2, 1, 0), (907, .invokevirtual 68, 3, 0), (910, .iload 5, 2, 0)]
theorem mk117_46 : (mc117_46).all (m_okI code) = true := by decide +kernel
def mc117_47 : List (Nat × Instr × Nat × Nat) := [(912, .if_icmp .eq 5, 3, 917), (915, .iconst 0, 1, 0), (916, .ireturn, 1, 0), (917, .iload 5, 2, 0), (919, .ifCond .ne 15, 3, 934), (922, .aload_n 3, 1, 0), (923, .iconst 0, 1, 0), (924, .laload, 1, 0), (925, .iload 6, 2, 0), (927, .i2l, 1, 0), (928, .lcmp, 1, 0), (929, .ifCond .eq 5, 3, 934)]
theorem mk117_47 : (mc117_47).all (m_okI code) = true := by decide +kernel
def mc117_48 : List (Nat × Instr × Nat × Nat) := [(932, .iconst 0, 1, 0), (933, .ireturn, 1, 0), (934, .goto 85, 3, 1019), (937, .aload_n 1, 1, 0), (938, .aload_n 0, 1, 0), (939, .iload 4, 2, 0), (941, .iconst 1, 1, 0), (942, .iadd, 1, 0), (943, .iaload, 1, 0), (944, .aload_n 3, 1, 0), (945, .invokestatic 111, 3, 0), (948, .istore 5, 2, 0)]
theorem mk117_48 : (mc117_48).all (m_okI code) = true := by decide +kernel
def mc117_49 : List (Nat × Instr × Nat × Nat) := [(950, .aload_n 2, 1, 0), (951, .aload_n 0, 1, 0), (952, .iload 4, 2, 0), (954, .iconst 1, 1, 0), (955, .iadd, 1, 0), (956, .iaload, 1, 0), (957, .invokevirtual 114, 3, 0), (960, .istore 6, 2, 0), (962, .aload_n 2, 1, 0), (963, .invokevirtual 68, 3, 0), (966, .iload 5, 2, 0), (968, .if_icmp .eq 5, 3, 973)]
theorem mk117_49 : (mc117_49).all (m_okI code) = true := by decide +kernel
def mc117_50 : List (Nat × Instr × Nat × Nat) := [(971, .iconst 0, 1, 0), (972, .ireturn, 1, 0), (973, .iload 5, 2, 0), (975, .ifCond .ne 15, 3, 990), (978, .aload_n 3, 1, 0), (979, .iconst 0, 1, 0), (980, .laload, 1, 0), (981, .iload 6, 2, 0), (983, .i2l, 1, 0), (984, .lcmp, 1, 0), (985, .ifCond .eq 5, 3, 990), (988, .iconst 0, 1, 0)]
theorem mk117_50 : (mc117_50).all (m_okI code) = true := by decide +kernel
def mc117_51 : List (Nat × Instr × Nat × Nat) := [(989, .ireturn, 1, 0), (990, .goto 29, 3, 1019), (993, .aload_n 1, 1, 0), (994, .invokevirtual 115, 3, 0), (997, .aload_n 2, 1, 0), (998, .invokevirtual 118, 3, 0), (1001, .if_icmp .eq 18, 3, 1019), (1004, .iconst 0, 1, 0), (1005, .ireturn, 1, 0), (1006, .aload_n 1, 1, 0), (1007, .invokevirtual 119, 3, 0), (1010, .aload_n 2, 1, 0)]
theorem mk117_51 : (mc117_51).all (m_okI code) = true := by decide +kernel
def mc117_52 : List (Nat × Instr × Nat × Nat) := [(1011, .invokevirtual 122, 3, 0), (1014, .if_icmp .eq 5, 3, 1019), (1017, .iconst 0, 1, 0), (1018, .ireturn, 1, 0), (1019, .iinc 4 5, 3, 0), (1022, .goto (-979), 3, 43), (1025, .iconst 1, 1, 0), (1026, .ireturn, 1, 0)]
theorem mk117_52 : (mc117_52).all (m_okI code) = true := by decide +kernel
def mc117 : List (Nat × List (Nat × Instr × Nat × Nat)) := [(22, mc117_0), (41, mc117_1), (59, mc117_2), (145, mc117_3), (164, mc117_4), (179, mc117_5), (199, mc117_6), (222, mc117_7), (241, mc117_8), (255, mc117_9), (272, mc117_10), (291, mc117_11), (311, mc117_12), (327, mc117_13), (344, mc117_14), (358, mc117_15), (380, mc117_16), (394, mc117_17), (411, mc117_18), (429, mc117_19), (448, mc117_20), (466, mc117_21), (480, mc117_22), (497, mc117_23), (511, mc117_24), (534, mc117_25), (552, mc117_26), (568, mc117_27), (585, mc117_28), (606, mc117_29), (628, mc117_30), (642, mc117_31), (659, mc117_32), (673, mc117_33), (696, mc117_34), (717, mc117_35), (733, mc117_36), (749, mc117_37), (770, mc117_38), (790, mc117_39), (804, mc117_40), (821, mc117_41), (837, mc117_42), (858, mc117_43), (876, mc117_44), (893, mc117_45), (911, mc117_46), (930, mc117_47), (949, mc117_48), (969, mc117_49), (989, mc117_50), (1011, mc117_51), (1027, mc117_52)]
theorem mk117 : ∀ c ∈ mc117, c.2.all (m_okI code) = true := by
  simp only [mc117, List.forall_mem_cons, List.not_mem_nil, false_implies, implies_true, and_true]
  exact ⟨mk117_0, mk117_1, mk117_2, mk117_3, mk117_4, mk117_5, mk117_6, mk117_7, mk117_8, mk117_9, mk117_10, mk117_11, mk117_12, mk117_13, mk117_14, mk117_15, mk117_16, mk117_17, mk117_18, mk117_19, mk117_20, mk117_21, mk117_22, mk117_23, mk117_24, mk117_25, mk117_26, mk117_27, mk117_28, mk117_29, mk117_30, mk117_31, mk117_32, mk117_33, mk117_34, mk117_35, mk117_36, mk117_37, mk117_38, mk117_39, mk117_40, mk117_41, mk117_42, mk117_43, mk117_44, mk117_45, mk117_46, mk117_47, mk117_48, mk117_49, mk117_50, mk117_51, mk117_52⟩
/-- java/util/Arrays.fill([II)V -/
def mc118_0 : List (Nat × Instr × Nat × Nat) := [(0, .iconst 0, 1, 0), (1, .istore_n 2, 1, 0), (2, .aload_n 0, 1, 0), (3, .arraylength, 1, 0), (4, .istore_n 3, 1, 0), (5, .iload_n 2, 1, 0), (6, .iload_n 3, 1, 0), (7, .if_icmp .ge 13, 3, 20), (10, .aload_n 0, 1, 0), (11, .iload_n 2, 1, 0), (12, .iload_n 1, 1, 0), (13, .iastore, 1, 0)]
theorem mk118_0 : (mc118_0).all (m_okI prog_17_method_103_code) = true := by decide +kernel
def mc118_1 : List (Nat × Instr × Nat × Nat) := [(14, .iinc 2 1, 3, 0), (17, .goto (-12), 3, 5), (20, .return_, 1, 0)]
theorem mk118_1 : (mc118_1).all (m_okI prog_17_method_103_code) = true := by decide +kernel
def mc118 : List (Nat × List (Nat × Instr × Nat × Nat)) := [(14, mc118_0), (21, mc118_1)]
theorem mk118 : ∀ c ∈ mc118, c.2.all (m_okI prog_17_method_103_code) = true := by
  simp only [mc118, List.forall_mem_cons, List.not_mem_nil, false_implies, implies_true, and_true]
  exact ⟨mk118_0, mk118_1⟩
end
section
/-- all methods' instructions -/
def m_codes : List (List (Nat × List (Nat × Instr × Nat × Nat))) := [mc0, mc1, mc2, mc3, mc4, mc5, mc6, mc7, mc8, mc9, mc10, mc11, mc12, mc13, mc14, mc15, mc16, mc17, mc18, mc19, mc20, mc21, mc22, mc23, mc24, mc25, mc26, mc27, mc28, mc29, mc30, mc31, mc32, mc33, mc34, mc35, mc36, mc37, mc38, mc39, mc40, mc41, mc42, mc43, mc44, mc45, mc46, mc47, mc48, mc49, mc50, mc51, mc52, mc53, mc54, mc55, mc56, mc57, mc58, mc59, mc60, mc61, mc62, mc63, mc64, mc65, mc66, mc67, mc68, mc69, mc70, mc71, mc72, mc73, mc74, mc75, mc76, mc77, mc78, mc79, mc80, mc81, mc82, mc83, mc84, mc85, mc86, mc87, mc88, mc89, mc90, mc91, mc92, mc93, mc94, mc95, mc96, mc97, mc98, mc99, mc100, mc101, mc102, mc103, mc104, mc105, mc106, mc107, mc108, mc109, mc110, mc111, mc112, mc113, mc114, mc115, mc116, mc117, mc118]
def m_code (y : Nat) : List (Nat × List (Nat × Instr × Nat × Nat)) := m_codes.getD y []
theorem m_code_ok : ∀ y, y < 119 → ∀ c ∈ m_code y, c.2.all (m_okI (m_by y)) = true
  | 0, _ => mk0
  | 1, _ => mk1
  | 2, _ => mk2
  | 3, _ => mk3
  | 4, _ => mk4
  | 5, _ => mk5
  | 6, _ => mk6
  | 7, _ => mk7
  | 8, _ => mk8
  | 9, _ => mk9
  | 10, _ => mk10
  | 11, _ => mk11
  | 12, _ => mk12
  | 13, _ => mk13
  | 14, _ => mk14
  | 15, _ => mk15
  | 16, _ => mk16
  | 17, _ => mk17
  | 18, _ => mk18
  | 19, _ => mk19
  | 20, _ => mk20
  | 21, _ => mk21
  | 22, _ => mk22
  | 23, _ => mk23
  | 24, _ => mk24
  | 25, _ => mk25
  | 26, _ => mk26
  | 27, _ => mk27
  | 28, _ => mk28
  | 29, _ => mk29
  | 30, _ => mk30
  | 31, _ => mk31
  | 32, _ => mk32
  | 33, _ => mk33
  | 34, _ => mk34
  | 35, _ => mk35
  | 36, _ => mk36
  | 37, _ => mk37
  | 38, _ => mk38
  | 39, _ => mk39
  | 40, _ => mk40
  | 41, _ => mk41
  | 42, _ => mk42
  | 43, _ => mk43
  | 44, _ => mk44
  | 45, _ => mk45
  | 46, _ => mk46
  | 47, _ => mk47
  | 48, _ => mk48
  | 49, _ => mk49
  | 50, _ => mk50
  | 51, _ => mk51
  | 52, _ => mk52
  | 53, _ => mk53
  | 54, _ => mk54
  | 55, _ => mk55
  | 56, _ => mk56
  | 57, _ => mk57
  | 58, _ => mk58
  | 59, _ => mk59
  | 60, _ => mk60
  | 61, _ => mk61
  | 62, _ => mk62
  | 63, _ => mk63
  | 64, _ => mk64
  | 65, _ => mk65
  | 66, _ => mk66
  | 67, _ => mk67
  | 68, _ => mk68
  | 69, _ => mk69
  | 70, _ => mk70
  | 71, _ => mk71
  | 72, _ => mk72
  | 73, _ => mk73
  | 74, _ => mk74
  | 75, _ => mk75
  | 76, _ => mk76
  | 77, _ => mk77
  | 78, _ => mk78
  | 79, _ => mk79
  | 80, _ => mk80
  | 81, _ => mk81
  | 82, _ => mk82
  | 83, _ => mk83
  | 84, _ => mk84
  | 85, _ => mk85
  | 86, _ => mk86
  | 87, _ => mk87
  | 88, _ => mk88
  | 89, _ => mk89
  | 90, _ => mk90
  | 91, _ => mk91
  | 92, _ => mk92
  | 93, _ => mk93
  | 94, _ => mk94
  | 95, _ => mk95
  | 96, _ => mk96
  | 97, _ => mk97
  | 98, _ => mk98
  | 99, _ => mk99
  | 100, _ => mk100
  | 101, _ => mk101
  | 102, _ => mk102
  | 103, _ => mk103
  | 104, _ => mk104
  | 105, _ => mk105
  | 106, _ => mk106
  | 107, _ => mk107
  | 108, _ => mk108
  | 109, _ => mk109
  | 110, _ => mk110
  | 111, _ => mk111
  | 112, _ => mk112
  | 113, _ => mk113
  | 114, _ => mk114
  | 115, _ => mk115
  | 116, _ => mk116
  | 117, _ => mk117
  | 118, _ => mk118
  | n + 119, h => absurd h (by omega)
end
section
/-! A SMALL MACHINE over numbered cells. A reference is the number of a cell; cells are numbered as they are made; from m_sB on stand the arrays and texts that were there before. -/
/-- a cell: an array of ints or booleans (kind, length, contents), of longs, of rows; an object (class, fields) -/
abbrev mC : Type := (Nat × Nat × (Nat → Int32)) ⊕ (Nat × (Nat → Int64)) ⊕ (Nat × (Nat → Nat)) ⊕ (Nat × List Value)
abbrev mI (n : Nat) (f : Nat → Int32) : mC := .inl (0, n, f)
abbrev mZ (n : Nat) (f : Nat → Int32) : mC := .inl (1, n, f)
abbrev mJ (n : Nat) (f : Nat → Int64) : mC := .inr (.inl (n, f))
abbrev mG (n : Nat) (f : Nat → Nat) : mC := .inr (.inr (.inl (n, f)))
abbrev mO (ci : Nat) (fs : List Value) : mC := .inr (.inr (.inr (ci, fs)))
/-- no cell -/
abbrev mNo : mC := mO 99 []
/-- the heap: the cells, how many there are, how many slots they have -/
abbrev mH : Type := (Nat → mC) × Nat × Nat
abbrev mL : Type := List (Option Value)
/-- how a method ends: it returned (with a value or none), or it threw the object with that number -/
abbrev mE : Type := Option Value ⊕ Nat
def m_set (h : mH) (k : Nat) (c : mC) : mH := (fun j => if j = k then c else h.1 j, h.2.1, h.2.2)
def m_push (h : mH) (c : mC) (n : Nat) : mH := (fun j => if j = h.2.1 then c else h.1 j, h.2.1 + 1, h.2.2 + n)
/-- an array of n rows of k ints -/
def m_pushG (h : mH) (n k : Nat) : mH := (fun j => if j = h.2.1 then mG n (fun i => h.2.1 + 1 + i) else if h.2.1 < j ∧ j < h.2.1 + 1 + n then mI k (fun _ => 0) else h.1 j, h.2.1 + 1 + n, h.2.2 + (n + n * k))
def m_in (j : Int32) (n : Nat) : Prop := ¬ (j < 0 ∨ n ≤ j.toNatClampNeg)
/-- a value that a field of a type takes as it is -/
def m_fit (ty : FieldType) (v : Value) : Bool := match ty, v with
  | .int, .int _ => true
  | .boolean, .int x => decide (x = 0) || decide (x = 1)
  | .object _, .ref _ => true
  | .array _, .ref _ => true
  | _, _ => false
def m_ld (L : mL) (k : Nat) : Option Value := (L.getD k none)
/-- a value of one word that may stand in a local -/
def m_one (v : Value) : Bool := match v with
  | .int _ => true
  | .ref _ => true
  | _ => false
def m_isI (v : Value) : Bool := match v with
  | .int _ => true
  | _ => false
def m_isR (v : Value) : Bool := match v with
  | .ref _ => true
  | _ => false
def m_words (S : List Value) : Nat := (S.map fun v => v.category).sum
/-- does the condition hold -/
def m_cnd (c : ClassFile.Cond) (x z : Int32) : Prop := match c with
  | .eq => x = z
  | .ne => ¬ x = z
  | .lt => x < z
  | .ge => z ≤ x
  | .gt => z < x
  | .le => x ≤ z
/-- a branch: its condition, its two numbers, what is left on the stack -/
def m_br (i : Instr) (S : List Value) : Option (ClassFile.Cond × Int32 × Int32 × List Value) := match i with
  | .ifCond c _ => (match S with
    | .int x :: S => some (c, x, 0, S)
    | _ => none)
  | .if_icmp c _ => (match S with
    | .int z :: .int x :: S => some (c, x, z, S)
    | _ => none)
  | _ => none
/-- arrays: a load -/
def m_al (i : Instr) (S : List Value) (h : mH) : Option (Int32 × Nat × (Nat → Value) × List Value) := match S with
  | .int j :: .ref a :: S => (match i, h.1 a with
    | .iaload, .inl (0, n, f) => some (j, n, fun k => .int (f k), S)
    | .baload, .inl (1, n, f) => some (j, n, fun k => .int (f k), S)
    | .laload, .inr (.inl (n, f)) => some (j, n, fun k => .long (f k), S)
    | .aaload, .inr (.inr (.inl (n, f))) => some (j, n, fun k => .ref (f k), S)
    | _, _ => none)
  | _ => none
/-- arrays: a store: the index, the length, is the value fit, the cell and what it holds behind it -/
def m_as (i : Instr) (S : List Value) (h : mH) : Option (Int32 × Nat × Bool × Nat × (Nat → mC) × List Value) := match i with
  | .iastore => (match S with
    | .int x :: .int j :: .ref a :: S => (match h.1 a with
      | .inl (0, n, f) => some (j, n, decide (a < m_sB), a, fun k => mI n (upd f k x), S)
      | _ => none)
    | _ => none)
  | .bastore => (match S with
    | .int x :: .int j :: .ref a :: S => (match h.1 a with
      | .inl (1, n, f) => some (j, n, (decide (x = 0) || decide (x = 1)) && decide (a < m_sB), a, fun k => mZ n (upd f k x), S)
      | _ => none)
    | _ => none)
  | .lastore => (match S with
    | .long x :: .int j :: .ref a :: S => (match h.1 a with
      | .inr (.inl (n, f)) => some (j, n, decide (a < m_sB), a, fun k => mJ n (vp_updL f k x), S)
      | _ => none)
    | _ => none)
  | _ => none
/-- an instruction that is none of those above and below: one step -/
def m_step (y pc : Nat) (i : Instr) (len tgt : Nat) (L : mL) (S : List Value) (h : mH) : Option (Nat × mL × List Value × mH) := match i with
  | .iconst v => some (pc + len, L, .int (Int32.ofInt v) :: S, h)
  | .bipush v => some (pc + len, L, .int (Int8.ofInt v).toInt32 :: S, h)
  | .sipush v => some (pc + len, L, .int (Int16.ofInt v).toInt32 :: S, h)
  | .lconst v => some (pc + len, L, .long (Int64.ofNat (v : Nat)) :: S, h)
  | .ldc ix => (match m_lc (m_o y) ix with
    | some (.int v) => some (pc + len, L, .int v :: S, h)
    | _ => none)
  | .iload_n k => (match m_ld L k with
    | some (.int x) => some (pc + len, L, .int x :: S, h)
    | _ => none)
  | .iload k => (match m_ld L k with
    | some (.int x) => some (pc + len, L, .int x :: S, h)
    | _ => none)
  | .aload_n k => (match m_ld L k with
    | some (.ref x) => some (pc + len, L, .ref x :: S, h)
    | _ => none)
  | .aload k => (match m_ld L k with
    | some (.ref x) => some (pc + len, L, .ref x :: S, h)
    | _ => none)
  | .istore_n k => (match S with
    | .int x :: S => some (pc + len, L.set k (some (.int x)), S, h)
    | _ => none)
  | .istore k => (match S with
    | .int x :: S => some (pc + len, L.set k (some (.int x)), S, h)
    | _ => none)
  | .astore_n k => (match S with
    | .ref x :: S => some (pc + len, L.set k (some (.ref x)), S, h)
    | _ => none)
  | .astore k => (match S with
    | .ref x :: S => some (pc + len, L.set k (some (.ref x)), S, h)
    | _ => none)
  | .iinc k v => (match m_ld L k with
    | some (.int x) => some (pc + len, L.set k (some (.int (x + Int32.ofInt v))), S, h)
    | _ => none)
  | .iadd => (match S with
    | .int z :: .int x :: S => some (pc + len, L, .int (x + z) :: S, h)
    | _ => none)
  | .isub => (match S with
    | .int z :: .int x :: S => some (pc + len, L, .int (x - z) :: S, h)
    | _ => none)
  | .imul => (match S with
    | .int z :: .int x :: S => some (pc + len, L, .int (x * z) :: S, h)
    | _ => none)
  | .iand => (match S with
    | .int z :: .int x :: S => some (pc + len, L, .int (x &&& z) :: S, h)
    | _ => none)
  | .ior => (match S with
    | .int z :: .int x :: S => some (pc + len, L, .int (x ||| z) :: S, h)
    | _ => none)
  | .ixor => (match S with
    | .int z :: .int x :: S => some (pc + len, L, .int (x ^^^ z) :: S, h)
    | _ => none)
  | .ishl => (match S with
    | .int z :: .int x :: S => some (pc + len, L, .int (x <<< (z &&& 31)) :: S, h)
    | _ => none)
  | .i2l => (match S with
    | .int x :: S => some (pc + len, L, .long x.toInt64 :: S, h)
    | _ => none)
  | .lcmp => (match S with
    | .long z :: .long x :: S => some (pc + len, L, .int (lg_cmp x z) :: S, h)
    | _ => none)
  | .dup => (match S with
    | .ref x :: S => some (pc + len, L, .ref x :: .ref x :: S, h)
    | .int x :: S => some (pc + len, L, .int x :: .int x :: S, h)
    | _ => none)
  | .dup2 => (match S with
    | .int x :: .ref z :: S => some (pc + len, L, .int x :: .ref z :: .int x :: .ref z :: S, h)
    | _ => none)
  | .pop => (match S with
    | .ref _ :: S => some (pc + len, L, S, h)
    | .int _ :: S => some (pc + len, L, S, h)
    | _ => none)
  | .goto _ => some (tgt, L, S, h)
  | .getstatic ix => (match m_gs (m_o y) ix with
    | some j => some (pc + len, L, .ref (m_sB + j) :: S, h)
    | none => none)
  | .getfield ix => (match S with
    | .ref a :: S => (match m_fl (m_o y) ix, h.1 a with
      | some (ci, k), .inr (.inr (.inr (cj, fs))) => (match ci == cj, fs[k]? with
        | true, some v => some (pc + len, L, v :: S, h)
        | _, _ => none)
      | _, _ => none)
    | _ => none)
  | .putfield ix => (match S with
    | v :: .ref a :: S => (match m_fl (m_o y) ix, h.1 a with
      | some (ci, k), .inr (.inr (.inr (cj, fs))) => (match ci == cj && (m_fit (m_ty ci k) v && (decide (k < fs.length) && (!m_fin ci k || (m_ini y && ci == m_o y)))) with
        | true => some (pc + len, L, S, m_set h a (mO cj (fs.set k v)))
        | _ => none)
      | _, _ => none)
    | _ => none)
  | .arraylength => (match S with
    | .ref a :: S => (match h.1 a with
      | .inl (_, n, _) => some (pc + len, L, .int (Int32.ofNat n) :: S, h)
      | .inr (.inl (n, _)) => some (pc + len, L, .int (Int32.ofNat n) :: S, h)
      | .inr (.inr (.inl (n, _))) => some (pc + len, L, .int (Int32.ofNat n) :: S, h)
      | _ => none)
    | _ => none)
  | .new ix => (match m_ne (m_o y) ix with
    | some ci => (match Nat.blt ci 7 with
      | true => some (pc + len, L, .ref h.2.1 :: S, m_push h (mO ci (m_df ci)) (m_sz ci))
      | false => none)
    | none => none)
  | .invokespecial ix => (match m_pr (m_o y) ix, S with
    | some 1, .ref _ :: S => (match decide (1 ≤ m_nf y) && decide (m_words S + 12 ≤ m_nw y) with
      | true => some (pc + len, L, S, h)
      | _ => none)
    | _, _ => none)
  | .invokestatic ix => (match m_pr (m_o y) ix, S with
    | some 3, .int z :: .int x :: S => (match decide (1 ≤ m_nf y) && decide (m_words S + 13 ≤ m_nw y) with
      | true => some (pc + len, L, .int (if x < z then z else x) :: S, h)
      | _ => none)
    | some 4, .int z :: .int x :: S => (match decide (1 ≤ m_nf y) && decide (m_words S + 13 ≤ m_nw y) with
      | true => some (pc + len, L, .int (if z < x then z else x) :: S, h)
      | _ => none)
    | _, _ => none)
  | _ => none
/-- the call of a method that the machine walks: its number, does the call look for it in the receiver -/
def m_inv (y : Nat) (i : Instr) : Option Nat := match i with
  | .invokevirtual ix => m_cl (m_o y) ix
  | .invokespecial ix => m_cl (m_o y) ix
  | .invokestatic ix => m_cl (m_o y) ix
  | _ => none
/-- the receiver's cell is an object of the method's own class -/
def m_rcv (y : Nat) (As : List Value) (h : mH) : Bool := m_st y || (match As with
  | .ref a :: _ => (match h.1 a with
    | .inr (.inr (.inr (ci, _))) => ci == m_o y
    | _ => false)
  | _ => false)
def m_entry (y : Nat) (As : List Value) : mL := As.map some ++ List.replicate (m_ml y - As.length) none
def m_at (y pc : Nat) : Option (Instr × Nat × Nat) := match (m_code y).find? (fun c => Nat.blt pc c.1) with
  | some c => c.2.lookup pc
  | none => none
/-- the handler of an exception -/
def m_catch (y pc : Nat) (h : mH) (x : Nat) : Option Nat := match h.1 x with
  | .inr (.inr (.inr (ci, _))) => ((m_hd y).find? (fun r => (Nat.ble r.1 pc && Nat.blt pc r.2.1) && Nat.beq r.2.2.2 ci)).map (fun r => r.2.2.1)
  | _ => none
/-- the call may be made: enough on the stack, all of one word, a good receiver, the room -/
def m_may (y y' : Nat) (S : List Value) (h : mH) : Bool := decide (m_na y' ≤ S.length) && (((S.take (m_na y')).all m_one) && (m_rcv y' (S.take (m_na y')).reverse h && (decide (m_nf y' + 1 ≤ m_nf y) && decide (m_words (S.drop (m_na y')) + (m_ml y' + 11) + m_nw y' ≤ m_nw y))))
/-- a method's return -/
def m_ret (y : Nat) (i : Instr) (S : List Value) : Option (Option Value) := match i with
  | .return_ => (match S, m_rt y with
    | [], none => some none
    | _, _ => none)
  | .ireturn => (match S, m_rt y with
    | [.int v], some ty => (match m_fit ty (.int v) with
      | true => some (some (.int v))
      | _ => none)
    | _, _ => none)
  | .areturn => (match S, m_rt y with
    | [.ref v], some (.array _) => some (some (.ref v))
    | _, _ => none)
  | _ => none
end
section
noncomputable def m_if {α : Type} (p : Prop) (a b : α) : α := @ite α p (Classical.propDecidable p) a b
theorem m_if_t {α : Type} {p : Prop} {a b : α} (h : p) : m_if p a b = a := if_pos h
theorem m_if_f {α : Type} {p : Prop} {a b : α} (h : ¬ p) : m_if p a b = b := if_neg h
/-- where a switch leads -/
def m_sw (pc : Nat) (d lo hi : Int) (offs : Array Int) (x : Int32) : Option Int :=
  if x.toInt < lo ∨ hi < x.toInt then some ((pc : Int) + d) else (offs[(x.toInt - lo).toNat]?).map (fun o => (pc : Int) + o)
/-- a new array -/
def m_arr (t : ArrayType) (n : Nat) : Option mC := match t with
  | .int => some (mI n (fun _ => 0))
  | .boolean => some (mZ n (fun _ => 0))
  | .long => some (mJ n (fun _ => 0))
  | _ => none
/-- one step with a condition -/
noncomputable def m_more (y pc : Nat) (i : Instr) (len : Nat) (L : mL) (S : List Value) (h : mH) : Option (Nat × mL × List Value × mH) := match i with
  | .newarray t => (match S with
    | .int n :: S => (match m_arr t n.toNatClampNeg with
      | some c => m_if (¬ n < 0 ∧ n.toNatClampNeg ≤ 1000000) (some (pc + len, L, .ref h.2.1 :: S, m_push h c n.toNatClampNeg)) none
      | none => none)
    | _ => none)
  | .multianewarray ix 2 => (match S, m_ma (m_o y) ix with
    | .int k :: .int n :: S, true => m_if ((¬ k < 0 ∧ k.toNatClampNeg ≤ 1000000) ∧ (¬ n < 0 ∧ n.toNatClampNeg ≤ 1000000)) (some (pc + len, L, .ref h.2.1 :: S, m_pushG h n.toNatClampNeg k.toNatClampNeg)) none
    | _, _ => none)
  | .idiv => (match S with
    | .int z :: .int x :: S => m_if (¬ z = 0) (some (pc + len, L, .int (x / z) :: S, h)) none
    | _ => none)
  | .irem => (match S with
    | .int z :: .int x :: S => m_if (¬ z = 0) (some (pc + len, L, .int (x - x / z * z) :: S, h)) none
    | _ => none)
  | .tableswitch d lo hi offs => (match S with
    | .int x :: S => (match m_sw pc d lo hi offs x with
      | some (.ofNat t) => some (t, L, S, h)
      | _ => none)
    | _ => none)
  | .invokestatic ix => (match m_pr (m_o y) ix, S with
    | some 5, .int n :: .int dp :: .ref b :: .int sp :: .ref a :: S => (match h.1 a, h.1 b with
      | .inl (0, n0, f), .inl (0, n1, g) => m_if (((¬ sp < 0 ∧ ¬ dp < 0) ∧ (¬ n < 0 ∧ a < m_sB)) ∧ ((sp.toNatClampNeg + n.toNatClampNeg ≤ n0 ∧ dp.toNatClampNeg + n.toNatClampNeg ≤ n1) ∧ (b < m_sB ∧ (1 ≤ m_nf y ∧ m_words S + 18 ≤ m_nw y)))) (some (pc + len, L, S, m_set h b (mI n1 (va_cpy f g sp.toNatClampNeg dp.toNatClampNeg n.toNatClampNeg)))) none
      | _, _ => none)
    | _, _ => none)
  | _ => none
noncomputable def m_go (y pc : Nat) (i : Instr) (len tgt : Nat) (L : mL) (S : List Value) (h : mH) : Option (Nat × mL × List Value × mH) :=
  match m_step y pc i len tgt L S h with
  | some r => some r
  | none => (match m_br i S with
    | some (c, x, z, S') => some (m_if (m_cnd c x z) tgt (pc + len), L, S', h)
    | none => (match m_al i S h with
      | some (j, n, f, S') => m_if (m_in j n) (some (pc + len, L, f j.toNatClampNeg :: S', h)) none
      | none => (match m_as i S h with
        | some (j, n, true, a, c, S') => m_if (m_in j n) (some (pc + len, L, S', m_set h a (c j.toNatClampNeg))) none
        | some _ => none
        | none => m_more y pc i len L S h)))
/-- the entries of the exceptions' constructors: which class -/
def m_px (o ix : Nat) : Option Nat := match o, ix with
  | 5, 72 => some 7
  | 5, 83 => some 8
  | _, _ => none
/-- behind 'new' of an exception: it is made with a written text and thrown -/
def m_seq (y pc ci : Nat) : Bool := match m_at y (pc + 3), m_at y (pc + 4), m_at y (pc + 6), m_at y (pc + 9) with
  | some (.dup, _, _), some (.ldc k, _, _), some (.invokespecial j, _, _), some (.athrow, _, _) => (match m_lc (m_o y) k, m_px (m_o y) j with
    | some (.ref _), some cj => Nat.beq ci cj
    | _, _ => false)
  | _, _, _, _ => false
/-- an exception is made and thrown out of a method without handlers -/
def m_thr (y pc : Nat) (i : Instr) (S : List Value) (h : mH) : Option (Nat × mH) := match i with
  | .new ix => (match m_ne (m_o y) ix with
    | some ci => (match (Nat.ble 7 ci && Nat.blt ci 9) && (m_seq y pc ci && ((m_hd y).isEmpty && (Nat.ble 6 (m_nf y) && Nat.ble (m_words S + 82) (m_nw y)))) with
      | true => some (h.2.1, m_push h (mO ci []) 6)
      | false => none)
    | none => none)
  | _ => none
/-- a method from a place on, with so much fuel: how it ends, and the heap then -/
noncomputable def m_exec : Nat → Nat → Nat → mL → List Value → mH → Option (mE × mH)
  | 0, _, _, _, _, _ => none
  | n + 1, y, pc, L, S, h => (match m_at y pc with
    | none => none
    | some (i, len, tgt) => (match m_go y pc i len tgt L S h with
      | some (pc', L', S', h') => m_exec n y pc' L' S' h'
      | none => (match m_inv y i with
        | some y' => (match m_may y y' S h with
          | true => (match m_exec n y' 0 (m_entry y' (S.take (m_na y')).reverse) [] h with
            | some (.inl v, h') => m_exec n y (pc + 3) L (v.toList ++ S.drop (m_na y')) h'
            | some (.inr x, h') => (match m_catch y pc h' x with
              | some t => m_exec n y t L [.ref x] h'
              | none => some (.inr x, h'))
            | none => none)
          | false => none)
        | none => (match m_ret y i S with
          | some v => some (.inl v, h)
          | none => (match m_thr y pc i S h with
            | some (x, h') => some (.inr x, h')
            | none => none)))))
theorem m_mono : ∀ (n y pc : Nat) (L : mL) (S : List Value) (h : mH) (r : mE × mH), m_exec n y pc L S h = some r → m_exec (n + 1) y pc L S h = some r := by
  intro n
  induction n with
  | zero => intro y pc L S h r q; simp [m_exec] at q
  | succ n ih =>
    intro y pc L S h r q
    rw [m_exec] at q ⊢
    cases e1 : m_at y pc with
    | none => rw [e1] at q; simp at q
    | some a =>
      obtain ⟨i, len, tgt⟩ := a
      rw [e1] at q
      dsimp only at q ⊢
      cases e2 : m_go y pc i len tgt L S h with
      | some b =>
        obtain ⟨pc', L', S', h'⟩ := b
        rw [e2] at q
        exact ih _ _ _ _ _ _ q
      | none =>
        rw [e2] at q
        dsimp only at q ⊢
        cases e3 : m_inv y i with
        | none => rw [e3] at q; exact q
        | some y' =>
          rw [e3] at q
          dsimp only at q ⊢
          cases e4 : m_may y y' S h with
          | false => rw [e4] at q; simp at q
          | true =>
            rw [e4] at q
            dsimp only at q ⊢
            cases e5 : m_exec n y' 0 (m_entry y' (S.take (m_na y')).reverse) [] h with
            | none => rw [e5] at q; simp at q
            | some w =>
              rw [e5] at q
              rw [ih _ _ _ _ _ _ e5]
              obtain ⟨o, h'⟩ := w
              cases o with
              | inl v => exact ih _ _ _ _ _ _ q
              | inr x =>
                dsimp only at q ⊢
                cases e6 : m_catch y pc h' x with
                | none => rw [e6] at q; exact q
                | some t => rw [e6] at q; exact ih _ _ _ _ _ _ q
theorem m_mono_le {n k y pc : Nat} {L : mL} {S : List Value} {h : mH} {r : mE × mH} (q : m_exec n y pc L S h = some r) (hk : n ≤ k) : m_exec k y pc L S h = some r := by
  induction hk with
  | refl => exact q
  | step _ ih => exact m_mono _ _ _ _ _ _ _ ih
/-- THE JUDGEMENT: the method y, at pc with these locals, stack and heap, comes to an end with Q -/
def X (y pc : Nat) (L : mL) (S : List Value) (h : mH) (Q : mE → mH → Prop) : Prop := ∃ (n : Nat) (o : mE) (h' : mH), m_exec n y pc L S h = some (o, h') ∧ Q o h'
/-- a method's call with these arguments -/
def Y (y : Nat) (As : List Value) (h : mH) (Q : mE → mH → Prop) : Prop := X y 0 (m_entry y As) [] h Q
section XR
variable {y pc len tgt pc' : Nat} {i : Instr} {L L' : mL} {S S' : List Value} {h h' : mH} {Q : mE → mH → Prop}
theorem X_go (h1 : m_at y pc = some (i, len, tgt)) (h2 : m_go y pc i len tgt L S h = some (pc', L', S', h')) (k : X y pc' L' S' h' Q) : X y pc L S h Q := by
  obtain ⟨n, o, hh, q, r⟩ := k
  refine ⟨n + 1, o, hh, ?_, r⟩
  rw [m_exec, h1]
  dsimp only
  rw [h2]
  exact q
/-- a plain step: 'refine X_s rfl rfl ?_' -/
theorem X_s (h1 : m_at y pc = some (i, len, tgt)) (h2 : m_step y pc i len tgt L S h = some (pc', L', S', h')) (k : X y pc' L' S' h' Q) : X y pc L S h Q :=
  X_go h1 (by rw [m_go, h2]) k
theorem X_b {c : ClassFile.Cond} {x z : Int32} (h1 : m_at y pc = some (i, len, tgt)) (h0 : m_step y pc i len tgt L S h = none) (h2 : m_br i S = some (c, x, z, S')) (kt : m_cnd c x z → X y tgt L S' h Q) (kf : ¬ m_cnd c x z → X y (pc + len) L S' h Q) : X y pc L S h Q := by
  by_cases q : m_cnd c x z
  · exact X_go h1 (by rw [m_go, h0]; dsimp only; rw [h2]; dsimp only; rw [m_if_t q]) (kt q)
  · exact X_go h1 (by rw [m_go, h0]; dsimp only; rw [h2]; dsimp only; rw [m_if_f q]) (kf q)
theorem X_l {j : Int32} {n : Nat} {f : Nat → Value} (h1 : m_at y pc = some (i, len, tgt)) (h0 : m_step y pc i len tgt L S h = none) (h3 : m_br i S = none) (h2 : m_al i S h = some (j, n, f, S')) (hin : m_in j n) (k : X y (pc + len) L (f j.toNatClampNeg :: S') h Q) : X y pc L S h Q :=
  X_go h1 (by rw [m_go, h0]; dsimp only; rw [h3]; dsimp only; rw [h2]; dsimp only; rw [m_if_t hin]) k
theorem X_t {j : Int32} {n a : Nat} {c : Nat → mC} (h1 : m_at y pc = some (i, len, tgt)) (h0 : m_step y pc i len tgt L S h = none) (h3 : m_br i S = none) (h4 : m_al i S h = none) (h2 : m_as i S h = some (j, n, true, a, c, S')) (hin : m_in j n) (k : X y (pc + len) L S' (m_set h a (c j.toNatClampNeg)) Q) : X y pc L S h Q :=
  X_go h1 (by rw [m_go, h0]; dsimp only; rw [h3]; dsimp only; rw [h4]; dsimp only; rw [h2]; dsimp only; rw [m_if_t hin]) k
theorem X_m (h1 : m_at y pc = some (i, len, tgt)) (h0 : m_step y pc i len tgt L S h = none) (h3 : m_br i S = none) (h4 : m_al i S h = none) (h5 : m_as i S h = none) (h2 : m_more y pc i len L S h = some (pc', L', S', h')) (k : X y pc' L' S' h' Q) : X y pc L S h Q :=
  X_go h1 (by rw [m_go, h0]; dsimp only; rw [h3]; dsimp only; rw [h4]; dsimp only; rw [h5]; dsimp only; exact h2) k
/-- a method returns -/
theorem X_r {v : Option Value} (h1 : m_at y pc = some (i, len, tgt)) (h2 : m_go y pc i len tgt L S h = none) (h3 : m_inv y i = none) (h4 : m_ret y i S = some v) (k : Q (.inl v) h) : X y pc L S h Q :=
  ⟨1, .inl v, h, by rw [m_exec, h1]; dsimp only; rw [h2]; dsimp only; rw [h3]; dsimp only; rw [h4], k⟩
/-- a method throws -/
theorem X_x {x : Nat} (h1 : m_at y pc = some (i, len, tgt)) (h2 : m_go y pc i len tgt L S h = none) (h3 : m_inv y i = none) (h4 : m_ret y i S = none) (h5 : m_thr y pc i S h = some (x, h')) (k : Q (.inr x) h') : X y pc L S h Q :=
  ⟨1, .inr x, h', by rw [m_exec, h1]; dsimp only; rw [h2]; dsimp only; rw [h3]; dsimp only; rw [h4]; dsimp only; rw [h5], k⟩
/-- a call -/
theorem X_c {y' : Nat} {Q' : mE → mH → Prop} (h1 : m_at y pc = some (i, len, tgt)) (h2 : m_go y pc i len tgt L S h = none) (h3 : m_inv y i = some y') (h4 : m_may y y' S h = true) (hY : Y y' (S.take (m_na y')).reverse h Q')
    (kr : ∀ v h', Q' (.inl v) h' → X y (pc + 3) L (v.toList ++ S.drop (m_na y')) h' Q) (kx : ∀ x h', Q' (.inr x) h' → (match m_catch y pc h' x with | some t => X y t L [.ref x] h' Q | none => Q (.inr x) h')) : X y pc L S h Q := by
  obtain ⟨n1, o, h', q1, r1⟩ := hY
  cases o with
  | inl v =>
    obtain ⟨n2, o2, h2', q2, r2⟩ := kr v h' r1
    refine ⟨max n1 n2 + 1, o2, h2', ?_, r2⟩
    rw [m_exec, h1]; dsimp only; rw [h2]; dsimp only; rw [h3]; dsimp only; rw [h4]; dsimp only
    rw [m_mono_le q1 (Nat.le_max_left n1 n2)]
    exact m_mono_le q2 (Nat.le_max_right n1 n2)
  | inr x =>
    have k := kx x h' r1
    cases e : m_catch y pc h' x with
    | none =>
      rw [e] at k
      refine ⟨n1 + 1, .inr x, h', ?_, k⟩
      rw [m_exec, h1]; dsimp only; rw [h2]; dsimp only; rw [h3]; dsimp only; rw [h4]; dsimp only; rw [q1]; dsimp only; rw [e]
    | some t =>
      rw [e] at k
      obtain ⟨n2, o2, h2', q2, r2⟩ := k
      refine ⟨max n1 n2 + 1, o2, h2', ?_, r2⟩
      rw [m_exec, h1]; dsimp only; rw [h2]; dsimp only; rw [h3]; dsimp only; rw [h4]; dsimp only
      rw [m_mono_le q1 (Nat.le_max_left n1 n2)]; dsimp only; rw [e]
      exact m_mono_le q2 (Nat.le_max_right n1 n2)
end XR
end
section
/-! THE MACHINE AND THE JVM: a callee's contract, with both ends (it returned, it threw), at a call -/
/-- a callee's end: the tables are warmer; nothing has moved but the slots L, and at most k new cells of n slots are there -/
def m_FE (first t : State) (L : List Loc) (k n : Nat) : Prop := first.WarmedH t.vm ∧ first.sameButNew ({ t with vm := first.vm } : State) L k n
section MB
variable {p : Program} {l : Launch} {e : Env} {R : Room} {s : State} {m : MethodId} {args : Array Value} {below : List Frame} {meth : Method} {c : Code}
theorem m_back {y : MethodName} {S : Spec} {P : Array Value → State → Prop} {Q : Array Value → State → Outcome → State → Prop} {len maxL : Nat} {E : Outcome → State → List Loc → Nat → Nat → Prop}
    (hM : MetFree l y S P (fun _ _ _ _ _ => True) Q)
    {U : State} {Ls : List Loc} {c0 s0 : Nat} {g : JFrame} {ig : Instr} {mk : MethodId} {a : Array Value}
    (X : Stand p l e R s m args below meth c U Ls c0 s0) (hg : g.method = m) (hsize : g.locals.size = c.maxLocals) (hdg : decode c.code g.pc = .ok (ig, len))
    (hn : U.methodNamed? y = some mk) {methY : Method} {cY : Code} (hmY : U.vm.method? mk = some methY) (hcY : methY.code = some cY) (hlY : cY.maxLocals = maxL)
    (hframes : S.room.frames + 1 ≤ R.frames) (hlocals : 2 * g.monitorRoom + (g.stack.map fun v => v.category).sum + (maxL + 11) + S.room.locals ≤ R.locals)
    (hpre : S.pre.before a U = true) (hini : (Cond.initialized y.cls).before a U = true) (hc : c0 + S.room.cells ≤ R.cells) (hs : s0 + S.room.slots ≤ R.slots)
    (hP : P a (U.calling g mk a))
    (hQ : ∀ o t, Q a (U.calling g mk a) o t → ∃ (L : List Loc) (k n : Nat), m_FE (U.calling g mk a) t L k n ∧ E o t L k n) :
    ∃ (o : Outcome) (t : State) (L : List Loc) (k n : Nat) (B : State), Q a (U.calling g mk a) o t ∧ E o t L k n ∧ B.heap = t.heap ∧ B.vm = t.vm ∧ Stand p l e R s m args below meth c B (Ls ++ L) (c0 + k) (s0 + n) ∧
      (match o with
        | .returned v => Steps p.tables e below (doInvoke e (U.setTop g) [] mk a).1 (B.setTop { g with pc := g.pc + len, stack := v.toList ++ g.stack })
        | .threw x => Steps p.tables e below (doInvoke e (U.setTop g) [] mk a).1 ((B.setTop g).pushFrame (.throwing x))) := by
  obtain ⟨kY, hkY, -⟩ := className_of_methodNamed hn
  have hinitY : kY.init = .initialized := Cond.initialized_spec (findClass_of_methodNamed hn) hkY hini
  have h : At U g.method c below := by rw [hg]; exact X.here
  have happ : S.appliesLoose y e.platform (U.calling g mk a) = true :=
    Spec.appliesLoose_calling (g := g) h hdg hn hkY hinitY
      (X.room_calling (g := g) (R' := S.room) hsize hmY hcY hframes (by rw [hlY]; exact hlocals) hc hs) hpre
  obtain ⟨mid, hmid⟩ := h.above
  have hfr : (U.setTop g).frames = (.java g :: mid) ++ below := by rw [State.frames_setTop' g h.top, hmid]; rfl
  obtain ⟨o, s₂, hsteps, -, hend, hq⟩ := Steps.callFree hM p X.admits X.cas X.clock (acts := []) hfr happ hP trivial
  have hq' : Q a (U.calling g mk a) o s₂ := hq
  rw [State.frames_setTop' g h.top] at hend
  obtain ⟨L, k, n, hfe, hE⟩ := hQ _ _ hq'
  obtain ⟨hW₂, e2, q2, q3, q4, q5, q6⟩ := id hfe
  have e3 : s₂ = ({ (U.calling g mk a).setFrames s₂.frames with heap := s₂.heap, slotsUsed := s₂.slotsUsed } : State).setVm s₂.vm := by
    have : s₂ = ({ s₂ with vm := (U.calling g mk a).vm } : State).setVm s₂.vm := rfl
    rw [e2] at this
    exact this
  have hW' : U.WarmedH s₂.vm := hW₂
  obtain ⟨g₀, hg0⟩ := Option.isSome_iff_exists.mp h.top
  obtain ⟨r, hr⟩ := State.topJava?_eq_some.mp hg0
  have hsame : U.sameButNew ({ U with heap := s₂.heap, slotsUsed := s₂.slotsUsed } : State) L k n := by
    refine ⟨?_, q2, q3, q4, q5, q6⟩
    obtain ⟨t, ht, -⟩ := State.frames_cons hr
    show ({ U with heap := s₂.heap, slotsUsed := s₂.slotsUsed } : State) = { U.setFrames U.frames with heap := s₂.heap, slotsUsed := s₂.slotsUsed }
    rw [State.setFrames_self ht]
  have hr' : (({ U with heap := s₂.heap, slotsUsed := s₂.slotsUsed } : State).setVm s₂.vm).frames = .java g₀ :: r := hr
  have XB : Stand p l e R s m args below meth c (({ U with heap := s₂.heap, slotsUsed := s₂.slotsUsed } : State).setVm s₂.vm) (Ls ++ L) (c0 + k) (s0 + n) :=
    ⟨X.admits, X.cas, X.clock, X.frames, X.room, X.hears, X.method, X.code, (X.here.setHeapUsed s₂.heap s₂.slotsUsed).setVm hW'.alike, X.tail, State.WarmedH.trans X.warmed hW', X.limits, X.bytes, X.same.trans (hsame.setVm s.vm)⟩
  refine ⟨o, s₂, L, k, n, (({ U with heap := s₂.heap, slotsUsed := s₂.slotsUsed } : State).setVm s₂.vm), hq', hE, rfl, rfl, XB, ?_⟩
  cases o with
  | returned v =>
    dsimp only
    obtain ⟨c₂, i₂, len₂, hc₂, hd₂, hf₂⟩ := hend
    have hcc : c₂ = c := by
      have h1 : s₂.code? g.method = U.code? g.method := by
        rw [State.code?_eq, State.code?_eq, hW'.alike.method?]
      exact Option.some.inj (hc₂.symm.trans (h1.trans h.code))
    subst hcc
    have hlen : len₂ = len := by rw [hdg] at hd₂; cases hd₂; rfl
    subst hlen
    have hs₂ : s₂ = (({ U with heap := s₂.heap, slotsUsed := s₂.slotsUsed } : State).setVm s₂.vm).setTop { g with pc := g.pc + len₂, stack := v.toList ++ g.stack } := by
      refine e3.trans ?_
      rw [hf₂, State.calling_eq h.top, State.setFrames_setFrames, State.setTop_of_frames _ hr', hr]
      rfl
    rw [← hs₂]
    exact hsteps
  | threw x =>
    dsimp only
    have hf₂ : s₂.frames = .throwing x :: .java g :: U.frames.tail := hend
    have hs₂ : s₂ = ((({ U with heap := s₂.heap, slotsUsed := s₂.slotsUsed } : State).setVm s₂.vm).setTop g).pushFrame (.throwing x) := by
      refine e3.trans ?_
      rw [hf₂, State.calling_eq h.top, State.setFrames_setFrames, State.pushFrame, State.setTop_of_frames _ hr', State.setFrames_setFrames, hr]
      have hcur := State.cur_lt_of_frames hr'
      rw [State.frames_setFrames _ hcur]
      rfl
    rw [← hs₂]
    exact hsteps
end MB
end
section
/-! the tables' words behind the machine's tables -/
/-- those of the words that stay true under warmer tables as they are -/
def m_tb : List Cond := lw_tbl.filter goodWord
theorem m_tb_in {w : Cond} (h : w ∈ m_tb) : w ∈ lw_tbl ∧ ((w.onTables && w.keeps) = true ∨ ∃ ty, w = .arrayClass ty) := by
  obtain ⟨h1, h2⟩ := List.mem_filter.mp h
  exact ⟨h1, good_of_word h2⟩
/-- a field's entry -/
def m_ckF (o : Nat) (q : Nat × Nat × Nat) : Bool := match m_cls[q.2.1]? with
  | some r => decide (Cond.fieldLink (m_R o) q.1 r.1 (r.2.1 q.2.2).2.1 (r.2.1 q.2.2).2.2.1 ∈ m_tb) && (decide (q.2.2 < r.2.2) && (decide ((r.2.1 q.2.2).1 = r.1) && (decide ((r.2.1 q.2.2).2.2.2 = m_fin q.2.1 q.2.2) && decide (m_R q.2.1 = r.1))))
  | none => false
set_option maxRecDepth 100000 in
theorem m_wF0 : (m_fls.getD 0 []).all (m_ckF 0) = true := by decide +kernel
set_option maxRecDepth 100000 in
theorem m_wF1 : (m_fls.getD 1 []).all (m_ckF 1) = true := by decide +kernel
set_option maxRecDepth 100000 in
theorem m_wF2 : (m_fls.getD 2 []).all (m_ckF 2) = true := by decide +kernel
set_option maxRecDepth 100000 in
theorem m_wF3 : (m_fls.getD 3 []).all (m_ckF 3) = true := by decide +kernel
set_option maxRecDepth 100000 in
theorem m_wF4 : (m_fls.getD 4 []).all (m_ckF 4) = true := by decide +kernel
set_option maxRecDepth 100000 in
theorem m_wF5 : (m_fls.getD 5 []).all (m_ckF 5) = true := by decide +kernel
set_option maxRecDepth 100000 in
theorem m_wF6 : (m_fls.getD 6 []).all (m_ckF 6) = true := by decide +kernel
theorem m_wF : ∀ o, (m_fls.getD o []).all (m_ckF o) = true
  | 0 => m_wF0
  | 1 => m_wF1
  | 2 => m_wF2
  | 3 => m_wF3
  | 4 => m_wF4
  | 5 => m_wF5
  | 6 => m_wF6
  | 7 => rfl
  | 8 => rfl
  | 9 => rfl
  | 10 => rfl
  | n + 11 => by simp [m_fls]
/-- a class of m_cls: its words, its types, its names -/
def m_ckC (ci : Nat) : Bool := match m_cls[ci]? with
  | some r => (u_ws r.1 r.2.1 r.2.2).all (fun w => decide (w ∈ m_tb)) && ((List.range r.2.2).all (fun k => decide (parseFieldDescriptor (r.2.1 k).2.2.1 = some (m_ty ci k))) && ((List.range r.2.2).all (fun a => (List.range r.2.2).all (fun b => decide (a = b) || !decide ((r.2.1 a).2.1 = (r.2.1 b).2.1))) &&
    (decide (Cond.instantiable r.1 r.2.2 ∈ m_tb) && (decide (Cond.initialized r.1 ∈ m_tb) && (decide (r.2.2 = m_sz ci) && (decide ((m_df ci).length = r.2.2) && ((List.range r.2.2).all (fun k => decide (defaultValue (m_ty ci k) = (m_df ci).getD k .null)) && decide (m_R ci = r.1))))))))
  | none => false
set_option maxRecDepth 100000 in
theorem m_wC0 : m_ckC 0 = true := by decide +kernel
set_option maxRecDepth 100000 in
theorem m_wC1 : m_ckC 1 = true := by decide +kernel
set_option maxRecDepth 100000 in
theorem m_wC2 : m_ckC 2 = true := by decide +kernel
set_option maxRecDepth 100000 in
theorem m_wC3 : m_ckC 3 = true := by decide +kernel
set_option maxRecDepth 100000 in
theorem m_wC4 : m_ckC 4 = true := by decide +kernel
set_option maxRecDepth 100000 in
theorem m_wC5 : m_ckC 5 = true := by decide +kernel
set_option maxRecDepth 100000 in
theorem m_wC6 : m_ckC 6 = true := by decide +kernel
theorem m_wC : ∀ ci, ci < 7 → m_ckC ci = true
  | 0, _ => m_wC0
  | 1, _ => m_wC1
  | 2, _ => m_wC2
  | 3, _ => m_wC3
  | 4, _ => m_wC4
  | 5, _ => m_wC5
  | 6, _ => m_wC6
  | n + 7, h => absurd h (by omega)
/-- a method: its code's word, what kind it is, its class -/
def m_cw (y : Nat) : Cond := if m_hw y = [] then .code (m_mn y) (m_by y) (m_ml y) (m_rt y) else .codeWith (m_mn y) (m_by y) (m_ml y) (m_rt y) (m_hw y)
def m_ckM (y : Nat) : Bool := (decide (y = 117) || decide (m_cw y ∈ m_tb)) && (decide ((m_mn y).cls = m_R (m_o y)) && ((decide (y = 117) || (if m_st y then decide (Cond.static (m_mn y) ∈ m_tb) else decide (Cond.instanceMethod (m_mn y) ∈ m_tb) && (m_ini y || decide (Cond.selects (m_R (m_o y)) (m_mn y) (m_mn y) ∈ m_tb)))) &&
  (decide (Cond.initialized (m_R (m_o y)) ∈ m_tb) && (decide ((parseMethodDescriptor (m_mn y).desc).map (fun d => d.parameters.length) = some (m_na y - (if m_st y then 0 else 1))) && (decide (plainName (m_R (m_o y)) = true) && (decide (m_ini y = decide ((m_mn y).name = "<init>")) &&
  (decide (m_na y ≤ m_ml y) && (decide (m_st y = true ∨ 1 ≤ m_na y) && (decide (m_R (m_o y) ≠ "java/lang/invoke/MethodHandle" ∧ m_R (m_o y) ≠ "java/lang/invoke/VarHandle") && decide (m_st y = true ∨ m_o y < 7))))))))))
set_option maxRecDepth 100000 in
theorem m_wM_0 : ([0, 1, 2, 3, 4, 5, 6, 7, 8, 9, 10, 11] : List Nat).all m_ckM = true := by decide +kernel
set_option maxRecDepth 100000 in
theorem m_wM_12 : ([12, 13, 14, 15, 16, 17, 18, 19, 20, 21, 22, 23] : List Nat).all m_ckM = true := by decide +kernel
set_option maxRecDepth 100000 in
theorem m_wM_24 : ([24, 25, 26, 27, 28, 29, 30, 31, 32, 33, 34, 35] : List Nat).all m_ckM = true := by decide +kernel
set_option maxRecDepth 100000 in
theorem m_wM_36 : ([36, 37, 38, 39, 40, 41, 42, 43, 44, 45, 46, 47] : List Nat).all m_ckM = true := by decide +kernel
set_option maxRecDepth 100000 in
theorem m_wM_48 : ([48, 49, 50, 51, 52, 53, 54, 55, 56, 57, 58, 59] : List Nat).all m_ckM = true := by decide +kernel
set_option maxRecDepth 100000 in
theorem m_wM_60 : ([60, 61, 62, 63, 64, 65, 66, 67, 68, 69, 70, 71] : List Nat).all m_ckM = true := by decide +kernel
set_option maxRecDepth 100000 in
theorem m_wM_72 : ([72, 73, 74, 75, 76, 77, 78, 79, 80, 81, 82, 83] : List Nat).all m_ckM = true := by decide +kernel
set_option maxRecDepth 100000 in
theorem m_wM_84 : ([84, 85, 86, 87, 88, 89, 90, 91, 92, 93, 94, 95] : List Nat).all m_ckM = true := by decide +kernel
set_option maxRecDepth 100000 in
theorem m_wM_96 : ([96, 97, 98, 99, 100, 101, 102, 103, 104, 105, 106, 107] : List Nat).all m_ckM = true := by decide +kernel
set_option maxRecDepth 100000 in
theorem m_wM_108 : ([108, 109, 110, 111, 112, 113, 114, 115, 116, 117, 118] : List Nat).all m_ckM = true := by decide +kernel
end
section
theorem m_wM : ∀ y, y < 119 → m_ckM y = true := by
  intro y hy
  rcases Nat.lt_or_ge y 12 with h0 | h0
  · refine List.all_eq_true.mp m_wM_0 y ?_
    simp only [List.mem_cons, List.not_mem_nil, or_false]
    omega
  rcases Nat.lt_or_ge y 24 with h12 | h12
  · refine List.all_eq_true.mp m_wM_12 y ?_
    simp only [List.mem_cons, List.not_mem_nil, or_false]
    omega
  rcases Nat.lt_or_ge y 36 with h24 | h24
  · refine List.all_eq_true.mp m_wM_24 y ?_
    simp only [List.mem_cons, List.not_mem_nil, or_false]
    omega
  rcases Nat.lt_or_ge y 48 with h36 | h36
  · refine List.all_eq_true.mp m_wM_36 y ?_
    simp only [List.mem_cons, List.not_mem_nil, or_false]
    omega
  rcases Nat.lt_or_ge y 60 with h48 | h48
  · refine List.all_eq_true.mp m_wM_48 y ?_
    simp only [List.mem_cons, List.not_mem_nil, or_false]
    omega
  rcases Nat.lt_or_ge y 72 with h60 | h60
  · refine List.all_eq_true.mp m_wM_60 y ?_
    simp only [List.mem_cons, List.not_mem_nil, or_false]
    omega
  rcases Nat.lt_or_ge y 84 with h72 | h72
  · refine List.all_eq_true.mp m_wM_72 y ?_
    simp only [List.mem_cons, List.not_mem_nil, or_false]
    omega
  rcases Nat.lt_or_ge y 96 with h84 | h84
  · refine List.all_eq_true.mp m_wM_84 y ?_
    simp only [List.mem_cons, List.not_mem_nil, or_false]
    omega
  rcases Nat.lt_or_ge y 108 with h96 | h96
  · refine List.all_eq_true.mp m_wM_96 y ?_
    simp only [List.mem_cons, List.not_mem_nil, or_false]
    omega
  rcases Nat.lt_or_ge y 119 with h108 | h108
  · refine List.all_eq_true.mp m_wM_108 y ?_
    simp only [List.mem_cons, List.not_mem_nil, or_false]
    omega
  omega
/-- the entries of calls, of the calls that are one step, of classes, of constants -/
def m_ckL (o : Nat) (q : Nat × Nat) : Bool := decide (Cond.methodLink (m_R o) q.1 (m_mn q.2) ∈ m_tb) && (decide (q.2 < 117) || decide (q.2 = 118))
def m_ckP (o : Nat) (q : Nat × Nat) : Bool := match q.2 with
  | 1 => decide (Cond.methodLink (m_R o) q.1 Lib.objectInit ∈ m_tb)
  | 2 => decide (Cond.methodLink (m_R o) q.1 ⟨m_R 7, "<init>", "(Ljava/lang/String;)V"⟩ ∈ m_tb) || decide (Cond.methodLink (m_R o) q.1 ⟨m_R 8, "<init>", "(Ljava/lang/String;)V"⟩ ∈ m_tb)
  | 3 => decide (Cond.methodLink (m_R o) q.1 Lib.Math.max.name ∈ m_tb)
  | 4 => decide (Cond.methodLink (m_R o) q.1 Lib.Math.min.name ∈ m_tb)
  | 5 => decide (Cond.methodLink (m_R o) q.1 arraycopyName ∈ m_tb)
  | _ => false
def m_ckN (o : Nat) (q : Nat × Nat) : Bool := decide (Cond.classLink (m_R o) q.1 (m_R q.2) ∈ m_tb) && decide (q.2 < 9)
def m_ckI (o : Nat) (q : Nat × Value) : Bool := match q.2 with
  | .int v => decide (Cond.constant (m_R o) q.1 v ∈ m_tb)
  | .ref k => decide (m_sB + 100 ≤ k ∧ k < m_sB + 115)
  | _ => false
def m_ckA (o : Nat) : Bool := (m_clss.getD o []).all (m_ckL o) && ((m_prs.getD o []).all (m_ckP o) && ((m_nes.getD o []).all (m_ckN o) && (m_lcs.getD o []).all (m_ckI o)))
set_option maxRecDepth 100000 in
theorem m_wA0 : m_ckA 0 = true := by decide +kernel
set_option maxRecDepth 100000 in
theorem m_wA1 : m_ckA 1 = true := by decide +kernel
set_option maxRecDepth 100000 in
theorem m_wA2 : m_ckA 2 = true := by decide +kernel
set_option maxRecDepth 100000 in
theorem m_wA3 : m_ckA 3 = true := by decide +kernel
set_option maxRecDepth 100000 in
theorem m_wA4 : m_ckA 4 = true := by decide +kernel
set_option maxRecDepth 100000 in
theorem m_wA5 : m_ckA 5 = true := by decide +kernel
set_option maxRecDepth 100000 in
theorem m_wA6 : m_ckA 6 = true := by decide +kernel
set_option maxRecDepth 100000 in
theorem m_wA7 : m_ckA 7 = true := by decide +kernel
set_option maxRecDepth 100000 in
theorem m_wA8 : m_ckA 8 = true := by decide +kernel
set_option maxRecDepth 100000 in
theorem m_wA9 : m_ckA 9 = true := by decide +kernel
set_option maxRecDepth 100000 in
theorem m_wA10 : m_ckA 10 = true := by decide +kernel
theorem m_wA : ∀ o, m_ckA o = true
  | 0 => m_wA0
  | 1 => m_wA1
  | 2 => m_wA2
  | 3 => m_wA3
  | 4 => m_wA4
  | 5 => m_wA5
  | 6 => m_wA6
  | 7 => m_wA7
  | 8 => m_wA8
  | 9 => m_wA9
  | 10 => m_wA10
  | n + 11 => by simp [m_ckA, m_clss, m_prs, m_nes, m_lcs]
set_option maxRecDepth 100000 in
theorem m_w1 : [Cond.instanceMethod Lib.objectInit, Cond.code Lib.objectInit ⟨#[0xb1]⟩ 1 none, Cond.static Lib.Math.max.name, Cond.initialized "java/lang/Math", Cond.code Lib.Math.max.name Lib.Math.max.code 2 (some .int), Cond.static Lib.Math.min.name, Cond.code Lib.Math.min.name Lib.Math.min.code 2 (some .int), Cond.native arraycopyName, Cond.static arraycopyName, Cond.initialized "java/lang/System", Cond.arrayClass .int, Cond.arrayClass .boolean, Cond.arrayClass .long].all (fun w => decide (w ∈ m_tb)) = true := by decide +kernel
end
section
/-- how long an instruction is (0: it is no matter), and the locals that it names lie in the frame -/
def m_len (i : Instr) : Nat := match i with
  | .bipush _ => 2
  | .sipush _ => 3
  | .ldc _ => 2
  | .iload _ => 2
  | .aload _ => 2
  | .istore _ => 2
  | .astore _ => 2
  | .iinc _ _ => 3
  | .getstatic _ => 3
  | .getfield _ => 3
  | .putfield _ => 3
  | .new _ => 3
  | .newarray _ => 2
  | .multianewarray _ _ => 4
  | .invokevirtual _ => 3
  | .invokespecial _ => 3
  | .invokestatic _ => 3
  | .ifCond _ _ => 3
  | .if_icmp _ _ => 3
  | .goto _ => 3
  | .tableswitch _ _ _ _ => 0
  | _ => 1
def m_ck2 (y : Nat) (q : Nat × Instr × Nat × Nat) : Bool := (decide (m_len q.2.1 = 0) || decide (m_len q.2.1 = q.2.2.1)) && (m_tg q.1 q.2.1 q.2.2.2 && (match q.2.1 with
  | .istore k => decide (k < m_ml y)
  | .astore k => decide (k < m_ml y)
  | .istore_n k => decide ((k : Nat) < m_ml y)
  | .astore_n k => decide ((k : Nat) < m_ml y)
  | .athrow => decide (m_hd y = [])
  | _ => true))
theorem m_l0 : (mc0).all (fun c => c.2.all (m_ck2 0)) = true := by decide +kernel
theorem m_l1 : (mc1).all (fun c => c.2.all (m_ck2 1)) = true := by decide +kernel
theorem m_l2 : (mc2).all (fun c => c.2.all (m_ck2 2)) = true := by decide +kernel
theorem m_l3 : (mc3).all (fun c => c.2.all (m_ck2 3)) = true := by decide +kernel
theorem m_l4 : (mc4).all (fun c => c.2.all (m_ck2 4)) = true := by decide +kernel
theorem m_l5 : (mc5).all (fun c => c.2.all (m_ck2 5)) = true := by decide +kernel
theorem m_l6 : (mc6).all (fun c => c.2.all (m_ck2 6)) = true := by decide +kernel
theorem m_l7 : (mc7).all (fun c => c.2.all (m_ck2 7)) = true := by decide +kernel
theorem m_l8 : (mc8).all (fun c => c.2.all (m_ck2 8)) = true := by decide +kernel
theorem m_l9 : (mc9).all (fun c => c.2.all (m_ck2 9)) = true := by decide +kernel
theorem m_l10 : (mc10).all (fun c => c.2.all (m_ck2 10)) = true := by decide +kernel
theorem m_l11 : (mc11).all (fun c => c.2.all (m_ck2 11)) = true := by decide +kernel
theorem m_l12 : (mc12).all (fun c => c.2.all (m_ck2 12)) = true := by decide +kernel
theorem m_l13 : (mc13).all (fun c => c.2.all (m_ck2 13)) = true := by decide +kernel
theorem m_l14 : (mc14).all (fun c => c.2.all (m_ck2 14)) = true := by decide +kernel
theorem m_l15 : (mc15).all (fun c => c.2.all (m_ck2 15)) = true := by decide +kernel
theorem m_l16 : (mc16).all (fun c => c.2.all (m_ck2 16)) = true := by decide +kernel
theorem m_l17 : (mc17).all (fun c => c.2.all (m_ck2 17)) = true := by decide +kernel
theorem m_l18 : (mc18).all (fun c => c.2.all (m_ck2 18)) = true := by decide +kernel
theorem m_l19 : (mc19).all (fun c => c.2.all (m_ck2 19)) = true := by decide +kernel
theorem m_l20 : (mc20).all (fun c => c.2.all (m_ck2 20)) = true := by decide +kernel
theorem m_l21 : (mc21).all (fun c => c.2.all (m_ck2 21)) = true := by decide +kernel
theorem m_l22 : (mc22).all (fun c => c.2.all (m_ck2 22)) = true := by decide +kernel
theorem m_l23 : (mc23).all (fun c => c.2.all (m_ck2 23)) = true := by decide +kernel
theorem m_l24 : (mc24).all (fun c => c.2.all (m_ck2 24)) = true := by decide +kernel
theorem m_l25 : (mc25).all (fun c => c.2.all (m_ck2 25)) = true := by decide +kernel
theorem m_l26 : (mc26).all (fun c => c.2.all (m_ck2 26)) = true := by decide +kernel
theorem m_l27 : (mc27).all (fun c => c.2.all (m_ck2 27)) = true := by decide +kernel
theorem m_l28 : (mc28).all (fun c => c.2.all (m_ck2 28)) = true := by decide +kernel
theorem m_l29 : (mc29).all (fun c => c.2.all (m_ck2 29)) = true := by decide +kernel
theorem m_l30 : (mc30).all (fun c => c.2.all (m_ck2 30)) = true := by decide +kernel
theorem m_l31 : (mc31).all (fun c => c.2.all (m_ck2 31)) = true := by decide +kernel
theorem m_l32 : (mc32).all (fun c => c.2.all (m_ck2 32)) = true := by decide +kernel
theorem m_l33 : (mc33).all (fun c => c.2.all (m_ck2 33)) = true := by decide +kernel
theorem m_l34 : (mc34).all (fun c => c.2.all (m_ck2 34)) = true := by decide +kernel
theorem m_l35 : (mc35).all (fun c => c.2.all (m_ck2 35)) = true := by decide +kernel
theorem m_l36 : (mc36).all (fun c => c.2.all (m_ck2 36)) = true := by decide +kernel
theorem m_l37 : (mc37).all (fun c => c.2.all (m_ck2 37)) = true := by decide +kernel
theorem m_l38 : (mc38).all (fun c => c.2.all (m_ck2 38)) = true := by decide +kernel
theorem m_l39 : (mc39).all (fun c => c.2.all (m_ck2 39)) = true := by decide +kernel
theorem m_l40 : (mc40).all (fun c => c.2.all (m_ck2 40)) = true := by decide +kernel
theorem m_l41 : (mc41).all (fun c => c.2.all (m_ck2 41)) = true := by decide +kernel
theorem m_l42 : (mc42).all (fun c => c.2.all (m_ck2 42)) = true := by decide +kernel
theorem m_l43 : (mc43).all (fun c => c.2.all (m_ck2 43)) = true := by decide +kernel
theorem m_l44 : (mc44).all (fun c => c.2.all (m_ck2 44)) = true := by decide +kernel
theorem m_l45 : (mc45).all (fun c => c.2.all (m_ck2 45)) = true := by decide +kernel
theorem m_l46 : (mc46).all (fun c => c.2.all (m_ck2 46)) = true := by decide +kernel
theorem m_l47 : (mc47).all (fun c => c.2.all (m_ck2 47)) = true := by decide +kernel
theorem m_l48 : (mc48).all (fun c => c.2.all (m_ck2 48)) = true := by decide +kernel
theorem m_l49 : (mc49).all (fun c => c.2.all (m_ck2 49)) = true := by decide +kernel
theorem m_l50 : (mc50).all (fun c => c.2.all (m_ck2 50)) = true := by decide +kernel
theorem m_l51 : (mc51).all (fun c => c.2.all (m_ck2 51)) = true := by decide +kernel
theorem m_l52 : (mc52).all (fun c => c.2.all (m_ck2 52)) = true := by decide +kernel
theorem m_l53 : (mc53).all (fun c => c.2.all (m_ck2 53)) = true := by decide +kernel
theorem m_l54 : (mc54).all (fun c => c.2.all (m_ck2 54)) = true := by decide +kernel
theorem m_l55 : (mc55).all (fun c => c.2.all (m_ck2 55)) = true := by decide +kernel
theorem m_l56 : (mc56).all (fun c => c.2.all (m_ck2 56)) = true := by decide +kernel
theorem m_l57 : (mc57).all (fun c => c.2.all (m_ck2 57)) = true := by decide +kernel
theorem m_l58 : (mc58).all (fun c => c.2.all (m_ck2 58)) = true := by decide +kernel
theorem m_l59 : (mc59).all (fun c => c.2.all (m_ck2 59)) = true := by decide +kernel
theorem m_l60 : (mc60).all (fun c => c.2.all (m_ck2 60)) = true := by decide +kernel
theorem m_l61 : (mc61).all (fun c => c.2.all (m_ck2 61)) = true := by decide +kernel
theorem m_l62 : (mc62).all (fun c => c.2.all (m_ck2 62)) = true := by decide +kernel
theorem m_l63 : (mc63).all (fun c => c.2.all (m_ck2 63)) = true := by decide +kernel
theorem m_l64 : (mc64).all (fun c => c.2.all (m_ck2 64)) = true := by decide +kernel
theorem m_l65 : (mc65).all (fun c => c.2.all (m_ck2 65)) = true := by decide +kernel
theorem m_l66 : (mc66).all (fun c => c.2.all (m_ck2 66)) = true := by decide +kernel
theorem m_l67 : (mc67).all (fun c => c.2.all (m_ck2 67)) = true := by decide +kernel
theorem m_l68 : (mc68).all (fun c => c.2.all (m_ck2 68)) = true := by decide +kernel
theorem m_l69 : (mc69).all (fun c => c.2.all (m_ck2 69)) = true := by decide +kernel
theorem m_l70 : (mc70).all (fun c => c.2.all (m_ck2 70)) = true := by decide +kernel
theorem m_l71 : (mc71).all (fun c => c.2.all (m_ck2 71)) = true := by decide +kernel
theorem m_l72 : (mc72).all (fun c => c.2.all (m_ck2 72)) = true := by decide +kernel
theorem m_l73 : (mc73).all (fun c => c.2.all (m_ck2 73)) = true := by decide +kernel
theorem m_l74 : (mc74).all (fun c => c.2.all (m_ck2 74)) = true := by decide +kernel
theorem m_l75 : (mc75).all (fun c => c.2.all (m_ck2 75)) = true := by decide +kernel
theorem m_l76 : (mc76).all (fun c => c.2.all (m_ck2 76)) = true := by decide +kernel
theorem m_l77 : (mc77).all (fun c => c.2.all (m_ck2 77)) = true := by decide +kernel
theorem m_l78 : (mc78).all (fun c => c.2.all (m_ck2 78)) = true := by decide +kernel
theorem m_l79 : (mc79).all (fun c => c.2.all (m_ck2 79)) = true := by decide +kernel
theorem m_l80 : (mc80).all (fun c => c.2.all (m_ck2 80)) = true := by decide +kernel
theorem m_l81 : (mc81).all (fun c => c.2.all (m_ck2 81)) = true := by decide +kernel
theorem m_l82 : (mc82).all (fun c => c.2.all (m_ck2 82)) = true := by decide +kernel
theorem m_l83 : (mc83).all (fun c => c.2.all (m_ck2 83)) = true := by decide +kernel
theorem m_l84 : (mc84).all (fun c => c.2.all (m_ck2 84)) = true := by decide +kernel
theorem m_l85 : (mc85).all (fun c => c.2.all (m_ck2 85)) = true := by decide +kernel
theorem m_l86 : (mc86).all (fun c => c.2.all (m_ck2 86)) = true := by decide +kernel
theorem m_l87 : (mc87).all (fun c => c.2.all (m_ck2 87)) = true := by decide +kernel
theorem m_l88 : (mc88).all (fun c => c.2.all (m_ck2 88)) = true := by decide +kernel
theorem m_l89 : (mc89).all (fun c => c.2.all (m_ck2 89)) = true := by decide +kernel
theorem m_l90 : (mc90).all (fun c => c.2.all (m_ck2 90)) = true := by decide +kernel
theorem m_l91 : (mc91).all (fun c => c.2.all (m_ck2 91)) = true := by decide +kernel
theorem m_l92 : (mc92).all (fun c => c.2.all (m_ck2 92)) = true := by decide +kernel
theorem m_l93 : (mc93).all (fun c => c.2.all (m_ck2 93)) = true := by decide +kernel
theorem m_l94 : (mc94).all (fun c => c.2.all (m_ck2 94)) = true := by decide +kernel
theorem m_l95 : (mc95).all (fun c => c.2.all (m_ck2 95)) = true := by decide +kernel
theorem m_l96 : (mc96).all (fun c => c.2.all (m_ck2 96)) = true := by decide +kernel
theorem m_l97 : (mc97).all (fun c => c.2.all (m_ck2 97)) = true := by decide +kernel
theorem m_l98 : (mc98).all (fun c => c.2.all (m_ck2 98)) = true := by decide +kernel
theorem m_l99 : (mc99).all (fun c => c.2.all (m_ck2 99)) = true := by decide +kernel
theorem m_l100 : (mc100).all (fun c => c.2.all (m_ck2 100)) = true := by decide +kernel
theorem m_l101 : (mc101).all (fun c => c.2.all (m_ck2 101)) = true := by decide +kernel
theorem m_l102 : (mc102).all (fun c => c.2.all (m_ck2 102)) = true := by decide +kernel
theorem m_l103 : (mc103).all (fun c => c.2.all (m_ck2 103)) = true := by decide +kernel
theorem m_l104 : (mc104).all (fun c => c.2.all (m_ck2 104)) = true := by decide +kernel
theorem m_l105 : (mc105).all (fun c => c.2.all (m_ck2 105)) = true := by decide +kernel
theorem m_l106 : (mc106).all (fun c => c.2.all (m_ck2 106)) = true := by decide +kernel
theorem m_l107 : (mc107).all (fun c => c.2.all (m_ck2 107)) = true := by decide +kernel
theorem m_l108 : (mc108).all (fun c => c.2.all (m_ck2 108)) = true := by decide +kernel
theorem m_l109 : (mc109).all (fun c => c.2.all (m_ck2 109)) = true := by decide +kernel
theorem m_l110 : (mc110).all (fun c => c.2.all (m_ck2 110)) = true := by decide +kernel
theorem m_l111 : (mc111).all (fun c => c.2.all (m_ck2 111)) = true := by decide +kernel
theorem m_l112 : (mc112).all (fun c => c.2.all (m_ck2 112)) = true := by decide +kernel
theorem m_l113 : (mc113).all (fun c => c.2.all (m_ck2 113)) = true := by decide +kernel
theorem m_l114 : (mc114).all (fun c => c.2.all (m_ck2 114)) = true := by decide +kernel
theorem m_l115 : (mc115).all (fun c => c.2.all (m_ck2 115)) = true := by decide +kernel
theorem m_l116 : (mc116).all (fun c => c.2.all (m_ck2 116)) = true := by decide +kernel
theorem m_l117 : (mc117).all (fun c => c.2.all (m_ck2 117)) = true := by decide +kernel
theorem m_l118 : (mc118).all (fun c => c.2.all (m_ck2 118)) = true := by decide +kernel
theorem m_lens : ∀ y, y < 119 → (m_code y).all (fun c => c.2.all (m_ck2 y)) = true
  | 0, _ => m_l0
  | 1, _ => m_l1
  | 2, _ => m_l2
  | 3, _ => m_l3
  | 4, _ => m_l4
  | 5, _ => m_l5
  | 6, _ => m_l6
  | 7, _ => m_l7
  | 8, _ => m_l8
  | 9, _ => m_l9
  | 10, _ => m_l10
  | 11, _ => m_l11
  | 12, _ => m_l12
  | 13, _ => m_l13
  | 14, _ => m_l14
  | 15, _ => m_l15
  | 16, _ => m_l16
  | 17, _ => m_l17
  | 18, _ => m_l18
  | 19, _ => m_l19
  | 20, _ => m_l20
  | 21, _ => m_l21
  | 22, _ => m_l22
  | 23, _ => m_l23
  | 24, _ => m_l24
  | 25, _ => m_l25
  | 26, _ => m_l26
  | 27, _ => m_l27
  | 28, _ => m_l28
  | 29, _ => m_l29
  | 30, _ => m_l30
  | 31, _ => m_l31
  | 32, _ => m_l32
  | 33, _ => m_l33
  | 34, _ => m_l34
  | 35, _ => m_l35
  | 36, _ => m_l36
  | 37, _ => m_l37
  | 38, _ => m_l38
  | 39, _ => m_l39
  | 40, _ => m_l40
  | 41, _ => m_l41
  | 42, _ => m_l42
  | 43, _ => m_l43
  | 44, _ => m_l44
  | 45, _ => m_l45
  | 46, _ => m_l46
  | 47, _ => m_l47
  | 48, _ => m_l48
  | 49, _ => m_l49
  | 50, _ => m_l50
  | 51, _ => m_l51
  | 52, _ => m_l52
  | 53, _ => m_l53
  | 54, _ => m_l54
  | 55, _ => m_l55
  | 56, _ => m_l56
  | 57, _ => m_l57
  | 58, _ => m_l58
  | 59, _ => m_l59
  | 60, _ => m_l60
  | 61, _ => m_l61
  | 62, _ => m_l62
  | 63, _ => m_l63
  | 64, _ => m_l64
  | 65, _ => m_l65
  | 66, _ => m_l66
  | 67, _ => m_l67
  | 68, _ => m_l68
  | 69, _ => m_l69
  | 70, _ => m_l70
  | 71, _ => m_l71
  | 72, _ => m_l72
  | 73, _ => m_l73
  | 74, _ => m_l74
  | 75, _ => m_l75
  | 76, _ => m_l76
  | 77, _ => m_l77
  | 78, _ => m_l78
  | 79, _ => m_l79
  | 80, _ => m_l80
  | 81, _ => m_l81
  | 82, _ => m_l82
  | 83, _ => m_l83
  | 84, _ => m_l84
  | 85, _ => m_l85
  | 86, _ => m_l86
  | 87, _ => m_l87
  | 88, _ => m_l88
  | 89, _ => m_l89
  | 90, _ => m_l90
  | 91, _ => m_l91
  | 92, _ => m_l92
  | 93, _ => m_l93
  | 94, _ => m_l94
  | 95, _ => m_l95
  | 96, _ => m_l96
  | 97, _ => m_l97
  | 98, _ => m_l98
  | 99, _ => m_l99
  | 100, _ => m_l100
  | 101, _ => m_l101
  | 102, _ => m_l102
  | 103, _ => m_l103
  | 104, _ => m_l104
  | 105, _ => m_l105
  | 106, _ => m_l106
  | 107, _ => m_l107
  | 108, _ => m_l108
  | 109, _ => m_l109
  | 110, _ => m_l110
  | 111, _ => m_l111
  | 112, _ => m_l112
  | 113, _ => m_l113
  | 114, _ => m_l114
  | 115, _ => m_l115
  | 116, _ => m_l116
  | 117, _ => m_l117
  | 118, _ => m_l118
  | n + 119, h => absurd h (by omega)
theorem m_at_mem {y pc : Nat} {r : Instr × Nat × Nat} (h : m_at y pc = some r) : ∃ c ∈ m_code y, (pc, r) ∈ c.2 := by
  unfold m_at at h
  split at h
  · rename_i c hc
    refine ⟨c, List.mem_of_find?_eq_some hc, ?_⟩
    generalize c.2 = ls at h
    induction ls with
    | nil => simp at h
    | cons a t ih =>
      obtain ⟨k, v⟩ := a
      rw [List.lookup_cons] at h
      split at h
      · rename_i hk
        have := (beq_iff_eq.mp hk)
        cases h
        rw [this]
        exact List.mem_cons_self
      · exact List.mem_cons_of_mem _ (ih h)
  · cases h
/-- what the tables say of an instruction that the machine finds -/
theorem m_at_ok {y pc len tgt : Nat} {i : Instr} (hy : y < 119) (h : m_at y pc = some (i, len, tgt)) : decode (m_by y) pc = .ok (i, len) ∧ m_ck2 y (pc, i, len, tgt) = true := by
  obtain ⟨c, hc, hm⟩ := m_at_mem h
  have h1 := List.all_eq_true.mp (m_code_ok y hy c hc) _ hm
  have h2 := List.all_eq_true.mp (List.all_eq_true.mp (m_lens y hy) c hc) _ hm
  simp only [m_okI, Bool.and_eq_true, decide_eq_true_eq] at h1
  exact ⟨h1.1, h2⟩
end
section
/-! THE MACHINE'S HEAP IN THE JVM'S: the k-th cell that is made lies at the address base + k -/
def m_ad (base : Nat) (rom : Nat → Nat) (k : Nat) : Nat := if k < m_sB then base + k else rom (k - m_sB)
def m_cv (ad : Nat → Nat) (v : Value) : Value := match v with
  | .ref k => .ref (ad k)
  | .int x => .int x
  | .long x => .long x
  | .float x => .float x
  | .double x => .double x
  | .null => .null
  | .retAddr x => .retAddr x
theorem m_cv_cat (ad : Nat → Nat) (v : Value) : (m_cv ad v).category = v.category := by cases v <;> rfl
theorem m_cv_words (ad : Nat → Nat) (S : List Value) : ((S.map (m_cv ad)).map fun v => v.category).sum = m_words S := by
  unfold m_words
  rw [List.map_map]
  congr 1
  exact List.map_congr_left fun v _ => m_cv_cat ad v
def m_at0 (cA : Nat → ClassId) : List (ClassId × FieldType) := [(cA 0, .int), (cA 1, .boolean), (cA 2, .long), (cA 3, .array .int)]
/-- a cell of the machine at an address of the JVM's heap -/
def m_rel1 (D : va_G) (cA eC : Nat → ClassId) (ad : Nat → Nat) (c : mC) (q : Nat) (H : Heap) : Prop := match c with
  | .inl (t, n, f) => ((t = 0 ∨ t = 1) ∧ n ≤ 1000000) ∧ H[q]? = some (arrV (cA t) n (fun j => .int (f j)))
  | .inr (.inl (n, f)) => n ≤ 1000000 ∧ H[q]? = some (arrV (cA 2) n (fun j => .long (f j)))
  | .inr (.inr (.inl (n, f))) => n ≤ 1000000 ∧ H[q]? = some (arrV (cA 3) n (fun j => .ref (ad (f j))))
  | .inr (.inr (.inr (ci, fs))) => (∃ r : vw_C, m_cls[ci]? = some r ∧ fs.length = r.2.2 ∧ t_OB q (D.1 ci) r.2.2 (D.2 ci) H (vp_V (fs.map (m_cv ad)))) ∨
      ((ci = 7 ∨ ci = 8) ∧ fs = [] ∧ ∃ cell : Cell, H[q]? = some cell ∧ cell.cls = eC ci ∧ cell.vm = .none)
theorem m_rel1_kept {D : va_G} {cA eC : Nat → ClassId} {ad : Nat → Nat} {c : mC} {q : Nat} {H H1 : Heap} (h : m_rel1 D cA eC ad c q H) (e : H1[q]? = H[q]?) : m_rel1 D cA eC ad c q H1 := by
  rcases c with ⟨t, n, f⟩ | ⟨n, f⟩ | ⟨n, f⟩ | ⟨ci, fs⟩
  · exact ⟨h.1, e.trans h.2⟩
  · exact ⟨h.1, e.trans h.2⟩
  · exact ⟨h.1, e.trans h.2⟩
  · rcases h with ⟨r, h1, h2, h3⟩ | ⟨h1, h2, cell, h3, h4⟩
    · exact Or.inl ⟨r, h1, h2, h3.kept e⟩
    · exact Or.inr ⟨h1, h2, cell, e.trans h3, h4⟩
theorem m_rel1_no {D : va_G} {cA eC : Nat → ClassId} {ad : Nat → Nat} {q : Nat} {H : Heap} : ¬ m_rel1 D cA eC ad mNo q H := by
  rintro (⟨r, h1, -⟩ | ⟨h1, -⟩)
  · simp [m_cls] at h1
  · omega
/-- what was there before: arrays of ints, or nothing that the machine may look at -/
def m_romOk (s0 : State) (rom : Nat → Nat) (romC : Nat → mC) : Prop := ∀ j, (∃ (n : Nat) (f : Nat → Int32), romC j = mI n f ∧ n ≤ 1000000 ∧ rom j < s0.heap.size ∧ va_T .int (rom j) n (fun k => .int (f k)) (fun q => s0.heap.size ≤ q) s0 s0.heap) ∨ romC j = mNo
/-- THE RELATION -/
def m_Rel (s0 : State) (rom : Nat → Nat) (romC : Nat → mC) (D : va_G) (cA eC : Nat → ClassId) (h : mH) (H : Heap) : Prop :=
  H.size = s0.heap.size + h.2.1 ∧ h.2.1 ≤ 2000000 ∧ (∀ k, k < h.2.1 → m_rel1 D cA eC (m_ad s0.heap.size rom) (h.1 k) (s0.heap.size + k) H) ∧ (∀ k, h.2.1 ≤ k → k < m_sB → h.1 k = mNo) ∧
    (∀ j, h.1 (m_sB + j) = romC j) ∧ (∀ q, q < s0.heap.size → H[q]? = s0.heap[q]?)
section MR
variable {s0 : State} {rom : Nat → Nat} {romC : Nat → mC} {D : va_G} {cA eC : Nat → ClassId} {h : mH} {H H1 : Heap}
theorem m_ad_lt {base k : Nat} {rom : Nat → Nat} (hk : k < m_sB) : m_ad base rom k = base + k := if_pos hk
theorem m_ad_rom {base j : Nat} {rom : Nat → Nat} : m_ad base rom (m_sB + j) = rom j := by
  unfold m_ad
  rw [if_neg (by omega), Nat.add_sub_cancel_left]
/-- a cell that is no array of ints from before: it is one of the machine's own -/
theorem m_own (R : m_Rel s0 rom romC D cA eC h H) (hr : m_romOk s0 rom romC) {a : Nat} (hn : h.1 a ≠ mNo) (hi : ∀ n f, h.1 a ≠ mI n f ∨ a < m_sB) : a < h.2.1 ∧ a < m_sB ∧ m_rel1 D cA eC (m_ad s0.heap.size rom) (h.1 a) (s0.heap.size + a) H := by
  obtain ⟨r1, r2, r3, r4, r5, r6⟩ := R
  have hs : m_sB = 1000000000 := rfl
  rcases Nat.lt_or_ge a h.2.1 with q | q
  · exact ⟨q, by omega, r3 a q⟩
  · rcases Nat.lt_or_ge a m_sB with q2 | q2
    · exact absurd (r4 a q q2) hn
    · obtain ⟨j, rfl⟩ := Nat.exists_eq_add_of_le q2
      rcases hr j with ⟨n, f, e, -⟩ | e
      · rcases hi n f with q3 | q3
        · exact absurd ((r5 j).trans e) q3
        · omega
      · exact absurd ((r5 j).trans e) hn
theorem m_isObj (R : m_Rel s0 rom romC D cA eC h H) (hr : m_romOk s0 rom romC) {a ci : Nat} {fs : List Value} (e : h.1 a = mO ci fs) (hc : ci < 9) : a < h.2.1 ∧ a < m_sB ∧ m_rel1 D cA eC (m_ad s0.heap.size rom) (mO ci fs) (m_ad s0.heap.size rom a) H := by
  obtain ⟨h1, h2, h3⟩ := m_own R hr (a := a) (by rw [e]; intro q; simp at q; omega) (fun n f => Or.inl (by rw [e]; intro q; cases q))
  rw [m_ad_lt h2]
  exact ⟨h1, h2, e ▸ h3⟩
/-- an array of ints, be it the machine's own or one from before -/
theorem m_isInts (R : m_Rel s0 rom romC D cA eC h H) (hr : m_romOk s0 rom romC) {U : State} (hal : s0.vm.Alike U.vm) (hK : va_K D m_cls (m_at0 cA) U) {a n : Nat} {f : Nat → Int32} (e : h.1 a = mI n f) :
    ∃ cell : Cell, H[m_ad s0.heap.size rom a]? = some cell ∧ U.isArrayOf cell .int ∧ cell.vm ≠ .unknown ∧ (n ≤ cell.slots.size ∧ cell.slots.size.toInt32 = Int32.ofNat n) ∧ n ≤ 1000000 ∧ ∀ j, j < n → cell.slots[j]? = some (.int (f j)) := by
  rcases Nat.lt_or_ge a m_sB with q | q
  · obtain ⟨h1, h2, h3⟩ := m_own R hr (a := a) (by rw [e]; intro q; cases q) (fun _ _ => Or.inr q)
    rw [m_ad_lt h2]
    rw [e] at h3
    refine ⟨_, h3.2, (hK.2 0 _ rfl).1 n _, (fun q => by cases q), ⟨by rw [arrV_size]; exact Nat.le_refl _, by rw [arrV_size]⟩, h3.1.2, fun j hj => arrV_read _ _ hj⟩
  · obtain ⟨j, rfl⟩ := Nat.exists_eq_add_of_le q
    rw [m_ad_rom]
    obtain ⟨r1, r2, r3, r4, r5, r6⟩ := R
    rcases hr j with ⟨n', f', e', hn, hl, cell, x1, x2, x3, x4, x4b, x5, -⟩ | e'
    · have e2 : mI n f = mI n' f' := e.symm.trans ((r5 j).trans e')
      simp only [Sum.inl.injEq, Prod.mk.injEq, true_and] at e2
      obtain ⟨rfl, rfl⟩ := e2
      exact ⟨cell, (r6 _ hl).trans x1, State.isArrayOf_alike hal x2, x3, ⟨x4, x4b⟩, hn, x5⟩
    · have e2 := e.symm.trans ((r5 j).trans e')
      cases e2
theorem m_rel_set (R : m_Rel s0 rom romC D cA eC h H) {a : Nat} {c : mC} (ha : a < h.2.1) (hc : m_rel1 D cA eC (m_ad s0.heap.size rom) c (s0.heap.size + a) H1) (hz : H1.size = H.size) (ho : ∀ q, q ≠ s0.heap.size + a → H1[q]? = H[q]?) : m_Rel s0 rom romC D cA eC (m_set h a c) H1 := by
  obtain ⟨r1, r2, r3, r4, r5, r6⟩ := R
  have hs : m_sB = 1000000000 := rfl
  refine ⟨hz.trans r1, r2, fun k hk => ?_, fun k h1 h2 => ?_, fun j => ?_, fun q hq => ?_⟩
  · show m_rel1 _ _ _ _ (if k = a then c else h.1 k) _ _
    by_cases q : k = a
    · rw [if_pos q, q]; exact hc
    · rw [if_neg q]; exact m_rel1_kept (r3 k hk) (ho _ (by omega))
  · show (if k = a then c else h.1 k) = _
    have h1' : h.2.1 ≤ k := h1
    rw [if_neg (by omega)]; exact r4 k h1 h2
  · show (if _ = a then c else h.1 _) = _
    rw [if_neg (by omega)]; exact r5 j
  · rw [ho q (by omega)]; exact r6 q hq
theorem m_rel_push (R : m_Rel s0 rom romC D cA eC h H) {c : mC} {n : Nat} (hb : h.2.1 + 1 ≤ 2000000) (hc : m_rel1 D cA eC (m_ad s0.heap.size rom) c (s0.heap.size + h.2.1) H1) (hz : H1.size = H.size + 1) (ho : ∀ q, q < H.size → H1[q]? = H[q]?) : m_Rel s0 rom romC D cA eC (m_push h c n) H1 := by
  obtain ⟨r1, r2, r3, r4, r5, r6⟩ := R
  have hs : m_sB = 1000000000 := rfl
  refine ⟨by show H1.size = s0.heap.size + (h.2.1 + 1); omega, hb, fun k hk => ?_, fun k h1 h2 => ?_, fun j => ?_, fun q hq => ?_⟩
  · show m_rel1 _ _ _ _ (if k = h.2.1 then c else h.1 k) _ _
    have hk' : k < h.2.1 + 1 := hk
    by_cases q : k = h.2.1
    · rw [if_pos q, q]; exact hc
    · rw [if_neg q]; exact m_rel1_kept (r3 k (by omega)) (ho _ (by omega))
  · show (if k = h.2.1 then c else h.1 k) = _
    have h1' : h.2.1 + 1 ≤ k := h1
    rw [if_neg (by omega)]; exact r4 k (by omega) h2
  · show (if _ = h.2.1 then c else h.1 _) = _
    rw [if_neg (by omega)]; exact r5 j
  · rw [ho q (by omega)]; exact r6 q hq
end MR
end
section
/-! ONE STEP OF THE MACHINE IS ONE OF THE JVM'S -/
def m_asc (ad : Nat → Nat) (L : mL) : List (Nat × Value) := (List.range L.length).filterMap (fun i => (m_ld L i).map (fun v => (i, m_cv ad v)))
/-- the locals -/
def m_Loc (ad : Nat → Nat) (ls : Array Slot) (nL : Nat) (L : mL) : Prop := lv_has ls nL (m_asc ad L) ∧ (∀ v, some v ∈ L → v.category = 1) ∧ L.length = nL
theorem m_asc_mem {ad : Nat → Nat} {L : mL} {i : Nat} {w : Value} : (i, w) ∈ m_asc ad L ↔ i < L.length ∧ ∃ v, m_ld L i = some v ∧ w = m_cv ad v := by
  unfold m_asc
  rw [List.mem_filterMap]
  constructor
  · rintro ⟨j, hj, e⟩
    cases q : m_ld L j with
    | none => rw [q] at e; simp at e
    | some v =>
      rw [q] at e
      simp only [Option.map_some, Option.some.injEq, Prod.mk.injEq] at e
      obtain ⟨rfl, rfl⟩ := e
      exact ⟨List.mem_range.mp hj, v, q, rfl⟩
  · rintro ⟨h1, v, h2, rfl⟩
    exact ⟨i, List.mem_range.mpr h1, by rw [h2]; rfl⟩
theorem m_ld_some {L : mL} {k : Nat} {v : Value} (h : m_ld L k = some v) : k < L.length ∧ some v ∈ L := by
  unfold m_ld at h
  rcases Nat.lt_or_ge k L.length with q | q
  · refine ⟨q, ?_⟩
    rw [List.getD_eq_getElem?_getD, List.getElem?_eq_getElem q, Option.getD_some] at h
    rw [← h]
    exact List.getElem_mem q
  · rw [List.getD_eq_getElem?_getD, List.getElem?_eq_none q] at h
    simp at h
theorem m_Loc.ld {ad : Nat → Nat} {ls : Array Slot} {nL k : Nat} {L : mL} {v : Value} (H : m_Loc ad ls nL L) (h : m_ld L k = some v) : ls[k]? = some (.val (m_cv ad v)) :=
  H.1.2.2 (k, m_cv ad v) (m_asc_mem.mpr ⟨(m_ld_some h).1, v, h, rfl⟩)
theorem m_Loc.st {ad : Nat → Nat} {ls ls' : Array Slot} {nL k : Nat} {L : mL} {v : Value} (H : m_Loc ad ls nL L) (hv : v.category = 1)
    (h : lv_has ls' nL ((k, m_cv ad v) :: (m_asc ad L).filter (fun q => !(q.1 == k) && !(q.1 + 1 == k && q.2.category == 2)))) : m_Loc ad ls' nL (L.set k (some v)) := by
  refine ⟨⟨h.1, h.2.1, fun q hq => ?_⟩, fun w hw => ?_, by rw [List.length_set]; exact H.2.2⟩
  · obtain ⟨i, w⟩ := q
    obtain ⟨h1, u, h2, rfl⟩ := m_asc_mem.mp hq
    refine h.2.2 (i, m_cv ad u) ?_
    rw [List.length_set] at h1
    unfold m_ld at h2
    rw [List.getD_eq_getElem?_getD, List.getElem?_set] at h2
    by_cases e : k = i
    · subst e
      rw [if_pos rfl, if_pos h1] at h2
      simp only [Option.getD_some, Option.some.injEq] at h2
      rw [h2]
      exact List.mem_cons_self
    · rw [if_neg e, ← List.getD_eq_getElem?_getD] at h2
      have h3 : m_ld L i = some u := h2
      refine List.mem_cons_of_mem _ (List.mem_filter.mpr ⟨m_asc_mem.mpr ⟨h1, u, h3, rfl⟩, ?_⟩)
      have hc : (m_cv ad u).category = 1 := by rw [m_cv_cat]; exact H.2.1 u (m_ld_some h3).2
      simp [hc, Ne.symm e]
  · rcases List.mem_or_eq_of_mem_set hw with q | q
    · exact H.2.1 w q
    · cases q; exact hv
/-- what holds of an invocation of the method y whose state at its entry is s -/
def m_Fr (p : Program) (s0 s : State) (m : MethodId) (args : Array Value) (meth : Method) (c : Code) (y : Nat) : Prop :=
  p.tables.exec = Jvm.exec ∧ c.code = m_by y ∧ c.maxLocals = m_ml y ∧ s.vm.findClass (m_R (m_o y)) = some m.cls ∧ s0.WarmedH s.vm ∧ (∀ w ∈ m_tb, w.before args s = true) ∧ meth.name = (m_mn y).name ∧ meth.sig.returnType = m_rt y ∧ meth.locks = false ∧
    c.exceptionTable.toList.map (fun h => (h.startPc, h.endPc, h.handlerPc, h.catchType)) = m_hw y ∧ y < 119
/-- the instructions that ask more of the world: statics -/
def m_spec (i : Instr) : Bool := match i with
  | .getstatic _ => true
  | _ => false
end
section
section SIM
variable {p : Program} {l : Launch} {e : Env} {R : Room} {s0 s : State} {m : MethodId} {args : Array Value} {below : List Frame} {meth : Method} {c : Code} {H : Heap} {locs : List Loc} {cells slots : Nat} {Q : State → Prop} {ls : Array Slot}
variable {rom : Nat → Nat} {romC : Nat → mC} {D : va_G} {cA eC : Nat → ClassId} {y pc len tgt pc' : Nat} {i : Instr} {L L' : mL} {S S' : List Value} {h h' : mH}
/-- a field is read -/
theorem m_W_get {ci k a index : Nat} {C : String} {T : u_T} {N : Nat} {fs : List Value} {v : Value} {rest : List Value} (hx : p.tables.exec = Jvm.exec) (hb : c.code = m_by y) (hown : s.vm.findClass (m_R (m_o y)) = some m.cls) (hts : ∀ w ∈ m_tb, w.before args s = true) (hin : ∀ w ∈ u_ws C T N, w ∈ m_tb)
    (hK : va_K D m_cls (m_at0 cA) s) (hc : m_cls[ci]? = some (C, T, N)) (hO : t_OB a (D.1 ci) N (D.2 ci) H (vp_V fs)) (hk : k < N) (hTC : (T k).1 = C) (hlink : Cond.fieldLink (m_R (m_o y)) index C (T k).2.1 (T k).2.2.1 ∈ m_tb) (hv : fs[k]? = some v) (hdg : decode (m_by y) pc = .ok (.getfield index, 3))
    (kk : W p l e R s m args below meth c H locs cells slots Q (F0 m (pc + 3) ls (v :: rest))) : W p l e R s m args below meth c H locs cells slots Q (F0 m pc ls (.ref a :: rest)) := by
  have hP : va_P D m_cls [(a, .inr (ci, fs))] H := fun k q hq => by
    match k, hq with
    | 0, hq => cases hq; exact ⟨_, hc, hO⟩
    | k + 1, hq => simp at hq
  exact va_get (D := D) (cl := m_cls) (ws := [(a, .inr (ci, fs))]) hx hb hts hin hown hK hP 0 rfl hc k hk (hts _ hlink) (fun _ h9 => by rw [← hTC]; exact h9) hv hdg kk
theorem m_fit_ok {ty : FieldType} {v : Value} (h : m_fit ty v = true) : narrow ty v = v ∧ fits ty v = true := by
  unfold m_fit at h
  split at h
  · exact ⟨rfl, rfl⟩
  · rename_i x
    rcases (by simpa using h : x = 0 ∨ x = 1) with rfl | rfl
    · exact ⟨by decide, by decide⟩
    · exact ⟨by decide, by decide⟩
  · exact ⟨rfl, rfl⟩
  · exact ⟨rfl, rfl⟩
  · cases h
theorem m_fit_cv {ty : FieldType} {v : Value} (ad : Nat → Nat) (h : m_fit ty v = true) : m_fit ty (m_cv ad v) = true := by
  unfold m_fit at h
  split at h
  · rfl
  · exact h
  · rfl
  · rfl
  · cases h
/-- a field is written -/
theorem m_W_put {ci k a index : Nat} {C : String} {T : u_T} {N : Nat} {fs : List Value} {v : Value} {rest : List Value} (hx : p.tables.exec = Jvm.exec) (hb : c.code = m_by y) (hown : s.vm.findClass (m_R (m_o y)) = some m.cls) (hts : ∀ w ∈ m_tb, w.before args s = true) (hin : ∀ w ∈ u_ws C T N, w ∈ m_tb)
    (hty : ∀ k, k < N → parseFieldDescriptor (T k).2.2.1 = some (m_ty ci k)) (hnm : ∀ a, a < N → ∀ b, b < N → a ≠ b → (T a).2.1 ≠ (T b).2.1) (hK : va_K D m_cls (m_at0 cA) s) (hc : m_cls[ci]? = some (C, T, N)) (hO : t_OB a (D.1 ci) N (D.2 ci) H (vp_V fs)) (hk : k < N) (hTC : (T k).1 = C)
    (hlink : Cond.fieldLink (m_R (m_o y)) index C (T k).2.1 (T k).2.2.1 ∈ m_tb) (hl : k < fs.length) (hfit : m_fit (m_ty ci k) v = true) (hfin : (T k).2.2.2 = false ∨ (meth.name = "<init>" ∧ C = m_R (m_o y))) (hdg : decode (m_by y) pc = .ok (.putfield index, 3))
    (kk : ∀ (H1 : Heap) (j : Nat), t_OB a (D.1 ci) N (D.2 ci) H1 (vp_V (fs.set k v)) → H1.size = H.size → (∀ q, q ≠ a → H1[q]? = H[q]?) → W p l e R s m args below meth c H1 (locs ++ [⟨a, j⟩]) cells slots Q (F0 m (pc + 3) ls rest)) : W p l e R s m args below meth c H locs cells slots Q (F0 m pc ls (v :: .ref a :: rest)) := by
  have hap := va_apart (own := C) hts hin (m_ty ci) hty hnm hK hc
  obtain ⟨cell, q1, q2, q3, q4⟩ := hO
  obtain ⟨hS, hfc, kC, hkC, hkind⟩ := hK.1 ci _ hc
  obtain ⟨cf, kf, fi, f, hi, hsl⟩ := hS k hk
  obtain ⟨hn, hf⟩ := m_fit_ok hfit
  have hst := (u_facts hfc hkC (u_lays hts hin hk) hi).1
  have hlay := hts _ (hin _ (u_in_lay hk))
  unfold u_lay at hlay
  have hlt : f.slot < cell.slots.size := by rw [hsl]; exact k2_hasslot (q4 k hk)
  have hi' : s.fieldFound? C (T k).2.1 (T k).2.2.1 = some (cf, kf, fi, f) := by rw [← hTC]; exact hi
  cases hfn : (T k).2.2.2 with
  | false =>
    rw [if_neg (by rw [hfn]; decide)] at hlay
    have h6 := u_store hfc hkC hkind hlay hi (hty k hk) hn hf
    refine W.putK hx hb (f := f) ⟨hown, hts _ hlink, ⟨_, _, _, hi'⟩, hst⟩ (by rw [q2]; exact h6) q1 q3 hlt rfl rfl hdg fun H' e1 e2 e3 => ?_
    rw [hsl] at e1
    exact kk H' _ (t_OB.to (V := updV (vp_V fs) k v) ⟨_, e1, q2, q3, t_set q4 hap hk v⟩ (fun j _ => vp_updV_set hl v j)) e2 e3
  | true =>
    rw [if_pos hfn] at hlay
    rcases hfin with hfin | ⟨hin2, hC⟩
    · rw [hfn] at hfin; cases hfin
    have hcf : m.cls = cf := by
      obtain ⟨_, _, c', _, _, _, -, -, hf', -, -, -, hown2, -⟩ := Cond.laysFinal_spec hlay
      have e1 : c' = cf := by have := hi.symm.trans hf'; simp at this; exact this.1.symm
      rw [hTC, hC] at hown2
      rw [← e1]; exact Option.some.inj (hown.symm.trans hown2)
    have h6 := u_fits hfc hkC hkind (Or.inr hlay) hi (hty k hk) hn hf
    refine W.putFinK hx hb hown (hts _ hlink) hi' hst hcf hin2 (by rw [q2]; exact h6) q1 q3 hlt rfl rfl hdg fun H' e1 e2 e3 => ?_
    rw [hsl] at e1
    exact kk H' _ (t_OB.to (V := updV (vp_V fs) k v) ⟨_, e1, q2, q3, t_set q4 hap hk v⟩ (fun j _ => vp_updV_set hl v j)) e2 e3
/-- an object is made -/
theorem m_W_new {ci index : Nat} {C : String} {T : u_T} {N : Nat} {rest : List Value} (hx : p.tables.exec = Jvm.exec) (hb : c.code = m_by y) (hown : s.vm.findClass (m_R (m_o y)) = some m.cls) (hts : ∀ w ∈ m_tb, w.before args s = true) (hin : ∀ w ∈ u_ws C T N, w ∈ m_tb)
    (hty : ∀ k, k < N → parseFieldDescriptor (T k).2.2.1 = some (m_ty ci k)) (hK : va_K D m_cls (m_at0 cA) s) (hc : m_cls[ci]? = some (C, T, N)) (hcl : Cond.classLink (m_R (m_o y)) index C ∈ m_tb) (hinst : Cond.instantiable C N ∈ m_tb) (hini : Cond.initialized C ∈ m_tb)
    (hcells : cells + 1 ≤ R.cells) (hslots : slots + N ≤ R.slots) (hdg : decode (m_by y) pc = .ok (.new index, 3))
    (kk : ∀ (H1 : Heap), t_OB H.size (D.1 ci) N (D.2 ci) H1 (fun k => defaultValue (m_ty ci k)) → H1.size = H.size + 1 → (∀ q, q < H.size → H1[q]? = H[q]?) → W p l e R s m args below meth c H1 locs (cells + 1) (slots + N) Q (F0 m (pc + 3) ls (.ref H.size :: rest))) : W p l e R s m args below meth c H locs cells slots Q (F0 m pc ls rest) := by
  have hK1 := hK.1 ci _ hc
  obtain ⟨hS, hfc, kC, hkC, hkind⟩ := id hK1
  refine W.newcK hx hb hown (hts _ hcl) (hts _ hinst) (hts _ hini) rfl hdg hcells hslots hfc rfl fun H' kC' h2 e1 e2 e3 => ?_
  exact kk H' (u_born (m_ty ci) hts hin hK1 h2 e1 hty) e2 e3
end SIM
end
section
theorem m_lookup_mem {β : Type} {l : List (Nat × β)} {k : Nat} {v : β} (h : l.lookup k = some v) : (k, v) ∈ l := by
  induction l with
  | nil => simp at h
  | cons a t ih =>
    obtain ⟨j, w⟩ := a
    rw [List.lookup_cons] at h
    split at h
    · rename_i hk
      have := beq_iff_eq.mp hk
      cases h
      rw [this]
      exact List.mem_cons_self
    · exact List.mem_cons_of_mem _ (ih h)
theorem m_fl_ok {o ix ci k : Nat} (h : m_fl o ix = some (ci, k)) : ∃ (C : String) (T : u_T) (N : Nat), m_cls[ci]? = some (C, T, N) ∧ Cond.fieldLink (m_R o) ix C (T k).2.1 (T k).2.2.1 ∈ m_tb ∧ k < N ∧ (T k).1 = C ∧ (T k).2.2.2 = m_fin ci k ∧ m_R ci = C := by
  have h1 := List.all_eq_true.mp (m_wF o) _ (m_lookup_mem h)
  unfold m_ckF at h1
  split at h1
  · rename_i r hr
    obtain ⟨C, T, N⟩ := r
    simp only [Bool.and_eq_true, decide_eq_true_eq] at h1
    exact ⟨C, T, N, hr, h1.1, h1.2.1, h1.2.2.1, h1.2.2.2.1, h1.2.2.2.2⟩
  · cases h1
theorem m_cls_ok {ci : Nat} {C : String} {T : u_T} {N : Nat} (h : m_cls[ci]? = some (C, T, N)) : (∀ w ∈ u_ws C T N, w ∈ m_tb) ∧ (∀ k, k < N → parseFieldDescriptor (T k).2.2.1 = some (m_ty ci k)) ∧ (∀ a, a < N → ∀ b, b < N → a ≠ b → (T a).2.1 ≠ (T b).2.1) ∧
    Cond.instantiable C N ∈ m_tb ∧ Cond.initialized C ∈ m_tb ∧ N = m_sz ci ∧ (m_df ci).length = N ∧ (∀ k, k < N → defaultValue (m_ty ci k) = (m_df ci).getD k .null) ∧ m_R ci = C ∧ ci < 7 := by
  have hci : ci < 7 := by
    rcases Nat.lt_or_ge ci 7 with q | q
    · exact q
    · have : m_cls[ci]? = none := List.getElem?_eq_none q
      rw [this] at h; cases h
  have h1 := m_wC ci hci
  unfold m_ckC at h1
  rw [h] at h1
  simp only [Bool.and_eq_true, decide_eq_true_eq, List.all_eq_true, List.mem_range, Bool.or_eq_true, Bool.not_eq_true', decide_eq_false_iff_not] at h1
  obtain ⟨a1, a2, a3, a4, a5, a6, a7, a8, a9⟩ := h1
  exact ⟨a1, a2, fun a ha b hb hne => (a3 a ha b hb).resolve_left hne, a4, a5, a6, a7, a8, a9, hci⟩
theorem m_ne_ok {o ix ci : Nat} (h : m_ne o ix = some ci) : Cond.classLink (m_R o) ix (m_R ci) ∈ m_tb ∧ ci < 9 := by
  have h1 := m_wA o
  unfold m_ckA at h1
  simp only [Bool.and_eq_true, List.all_eq_true] at h1
  have h2 := h1.2.2.1 _ (m_lookup_mem h)
  simpa [m_ckN] using h2
theorem m_pr_ok {o ix k : Nat} (h : m_pr o ix = some k) : m_ckP o (ix, k) = true := by
  have h1 := m_wA o
  unfold m_ckA at h1
  simp only [Bool.and_eq_true, List.all_eq_true] at h1
  exact h1.2.1 _ (m_lookup_mem h)
theorem m_lc_ok {o ix : Nat} {v : Value} (h : m_lc o ix = some v) : m_ckI o (ix, v) = true := by
  have h1 := m_wA o
  unfold m_ckA at h1
  simp only [Bool.and_eq_true, List.all_eq_true] at h1
  exact h1.2.2.2 _ (m_lookup_mem h)
theorem m_cl_ok {o ix y' : Nat} (h : m_cl o ix = some y') : Cond.methodLink (m_R o) ix (m_mn y') ∈ m_tb ∧ y' < 119 ∧ y' ≠ 117 := by
  have h1 := m_wA o
  unfold m_ckA at h1
  simp only [Bool.and_eq_true, List.all_eq_true] at h1
  have h2 := h1.1 _ (m_lookup_mem h)
  simp only [m_ckL, Bool.and_eq_true, Bool.or_eq_true, decide_eq_true_eq] at h2
  exact ⟨h2.1, by omega, by omega⟩
theorem m_one_in : ∀ w ∈ [Cond.instanceMethod Lib.objectInit, Cond.code Lib.objectInit ⟨#[0xb1]⟩ 1 none, Cond.static Lib.Math.max.name, Cond.initialized "java/lang/Math", Cond.code Lib.Math.max.name Lib.Math.max.code 2 (some .int), Cond.static Lib.Math.min.name, Cond.code Lib.Math.min.name Lib.Math.min.code 2 (some .int), Cond.native arraycopyName, Cond.static arraycopyName, Cond.initialized "java/lang/System", Cond.arrayClass .int, Cond.arrayClass .boolean, Cond.arrayClass .long], w ∈ m_tb := fun w hw => of_decide_eq_true (List.all_eq_true.mp m_w1 w hw)
section SIM
variable {p : Program} {l : Launch} {e : Env} {R : Room} {s0 s : State} {m : MethodId} {args : Array Value} {below : List Frame} {meth : Method} {c : Code} {H : Heap} {locs : List Loc} {cells slots : Nat} {Q : State → Prop} {ls : Array Slot}
variable {rom : Nat → Nat} {romC : Nat → mC} {D : va_G} {cA eC : Nat → ClassId} {y pc len tgt pc' : Nat} {i : Instr} {L L' : mL} {S S' : List Value} {h h' : mH}
set_option maxHeartbeats 4000000 in
theorem m_simS (C : m_Fr p s0 s m args meth c y) (hK : va_K D m_cls (m_at0 cA) s) (hr : m_romOk s0 rom romC) (hR : m_Rel s0 rom romC D cA eC h H) (hl : m_Loc (m_ad s0.heap.size rom) ls (m_ml y) L) (hF : R.frames = m_nf y) (hLo : R.locals = m_nw y)
    (h1 : m_at y pc = some (i, len, tgt)) (hsp : m_spec i = false) (h2 : m_step y pc i len tgt L S h = some (pc', L', S', h')) (hC : cells + h'.2.1 ≤ R.cells + h.2.1) (hSl : slots + h'.2.2 ≤ R.slots + h.2.2) (hB : h'.2.1 ≤ 2000000) (hlo : ∀ q ∈ locs, s0.heap.size ≤ q.base)
    (k : ∀ (H' : Heap) (locs' : List Loc) (ls' : Array Slot) (cells' slots' : Nat), m_Rel s0 rom romC D cA eC h' H' → m_Loc (m_ad s0.heap.size rom) ls' (m_ml y) L' → (∀ q ∈ locs', s0.heap.size ≤ q.base) → cells' + h.2.1 = cells + h'.2.1 → slots' + h.2.2 = slots + h'.2.2 →
      W p l e R s m args below meth c H' locs' cells' slots' Q (F0 m pc' ls' (S'.map (m_cv (m_ad s0.heap.size rom))))) :
    W p l e R s m args below meth c H locs cells slots Q (F0 m pc ls (S.map (m_cv (m_ad s0.heap.size rom)))) := by
  obtain ⟨hx, hb, hml, hown, hW, hts, hnm, hrt, hlk, hex, hy⟩ := C
  obtain ⟨hdg, hck⟩ := m_at_ok hy h1
  simp only [m_ck2, Bool.and_eq_true, Bool.or_eq_true, decide_eq_true_eq] at hck
  obtain ⟨hlen, htg, hst⟩ := hck
  cases i
  all_goals first | (simp only [m_step, reduceCtorEq] at h2; done) | skip
  case iconst v =>
    simp only [m_step, Option.some.injEq, Prod.mk.injEq] at h2
    obtain ⟨rfl, rfl, rfl, rfl⟩ := h2
    have e1 : len = 1 := by simp [m_len] at hlen; exact hlen.symm
    subst e1
    exact lv_iconst hx hb hdg rfl (k H locs ls _ _ hR hl hlo rfl rfl)
  case bipush v =>
    simp only [m_step, Option.some.injEq, Prod.mk.injEq] at h2
    obtain ⟨rfl, rfl, rfl, rfl⟩ := h2
    have e1 : len = 2 := by simp [m_len] at hlen; exact hlen.symm
    subst e1
    exact lv_bipush hx hb hdg rfl (k H locs ls _ _ hR hl hlo rfl rfl)
  case sipush v =>
    simp only [m_step, Option.some.injEq, Prod.mk.injEq] at h2
    obtain ⟨rfl, rfl, rfl, rfl⟩ := h2
    have e1 : len = 3 := by simp [m_len] at hlen; exact hlen.symm
    subst e1
    exact lv_sipush hx hb hdg rfl (k H locs ls _ _ hR hl hlo rfl rfl)
  case lconst v =>
    simp only [m_step, Option.some.injEq, Prod.mk.injEq] at h2
    obtain ⟨rfl, rfl, rfl, rfl⟩ := h2
    have e1 : len = 1 := by simp [m_len] at hlen; exact hlen.symm
    subst e1
    exact lv_lconst hx hb hdg rfl (k H locs ls _ _ hR hl hlo rfl rfl)
  case ldc ix =>
    simp only [m_step] at h2
    split at h2
    · rename_i v hv
      simp only [Option.some.injEq, Prod.mk.injEq] at h2
      obtain ⟨rfl, rfl, rfl, rfl⟩ := h2
      have e1 : len = 2 := by simp [m_len] at hlen; exact hlen.symm
      subst e1
      have h3 := m_lc_ok hv
      simp only [m_ckI, decide_eq_true_eq] at h3
      exact lv_ldc hx hb hown (hts _ h3) hdg (k H locs ls _ _ hR hl hlo rfl rfl)
    · cases h2
  case iload_n kx =>
    simp only [m_step] at h2
    split at h2
    · rename_i x hv
      simp only [Option.some.injEq, Prod.mk.injEq] at h2
      obtain ⟨rfl, rfl, rfl, rfl⟩ := h2
      have e1 : len = 1 := by simp [m_len] at hlen; exact hlen.symm
      subst e1
      exact lv_iload_n hx hb hdg rfl (hl.ld hv) (k H locs ls _ _ hR hl hlo rfl rfl)
    · cases h2
  case iload kx =>
    simp only [m_step] at h2
    split at h2
    · rename_i x hv
      simp only [Option.some.injEq, Prod.mk.injEq] at h2
      obtain ⟨rfl, rfl, rfl, rfl⟩ := h2
      have e1 : len = 2 := by simp [m_len] at hlen; exact hlen.symm
      subst e1
      exact lv_iload hx hb hdg (hl.ld hv) (k H locs ls _ _ hR hl hlo rfl rfl)
    · cases h2
  case aload_n kx =>
    simp only [m_step] at h2
    split at h2
    · rename_i x hv
      simp only [Option.some.injEq, Prod.mk.injEq] at h2
      obtain ⟨rfl, rfl, rfl, rfl⟩ := h2
      have e1 : len = 1 := by simp [m_len] at hlen; exact hlen.symm
      subst e1
      exact lv_aload_n hx hb hdg rfl (hl.ld hv) (k H locs ls _ _ hR hl hlo rfl rfl)
    · cases h2
  case aload kx =>
    simp only [m_step] at h2
    split at h2
    · rename_i x hv
      simp only [Option.some.injEq, Prod.mk.injEq] at h2
      obtain ⟨rfl, rfl, rfl, rfl⟩ := h2
      have e1 : len = 2 := by simp [m_len] at hlen; exact hlen.symm
      subst e1
      exact lv_aload hx hb hdg (hl.ld hv) (k H locs ls _ _ hR hl hlo rfl rfl)
    · cases h2
  case istore_n kx =>
    simp only [m_step] at h2
    split at h2
    · rename_i x S1
      simp only [Option.some.injEq, Prod.mk.injEq] at h2
      obtain ⟨rfl, rfl, rfl, rfl⟩ := h2
      have e1 : len = 1 := by simp [m_len] at hlen; exact hlen.symm
      subst e1
      have hlt : (kx : Nat) < m_ml y := by simpa using hst
      exact lv_istore_n hx hb hdg rfl hl.1 hlt rfl (fun ls' hl' => k H locs ls' _ _ hR (hl.st rfl hl') hlo rfl rfl)
    · cases h2
  case istore kx =>
    simp only [m_step] at h2
    split at h2
    · rename_i x S1
      simp only [Option.some.injEq, Prod.mk.injEq] at h2
      obtain ⟨rfl, rfl, rfl, rfl⟩ := h2
      have e1 : len = 2 := by simp [m_len] at hlen; exact hlen.symm
      subst e1
      have hlt : (kx : Nat) < m_ml y := by simpa using hst
      exact lv_istore hx hb hdg hl.1 hlt rfl (fun ls' hl' => k H locs ls' _ _ hR (hl.st rfl hl') hlo rfl rfl)
    · cases h2
  case astore_n kx =>
    simp only [m_step] at h2
    split at h2
    · rename_i x S1
      simp only [Option.some.injEq, Prod.mk.injEq] at h2
      obtain ⟨rfl, rfl, rfl, rfl⟩ := h2
      have e1 : len = 1 := by simp [m_len] at hlen; exact hlen.symm
      subst e1
      have hlt : (kx : Nat) < m_ml y := by simpa using hst
      exact lv_astore_n hx hb hdg rfl hl.1 hlt rfl (fun ls' hl' => k H locs ls' _ _ hR (hl.st rfl hl') hlo rfl rfl)
    · cases h2
  case astore kx =>
    simp only [m_step] at h2
    split at h2
    · rename_i x S1
      simp only [Option.some.injEq, Prod.mk.injEq] at h2
      obtain ⟨rfl, rfl, rfl, rfl⟩ := h2
      have e1 : len = 2 := by simp [m_len] at hlen; exact hlen.symm
      subst e1
      have hlt : (kx : Nat) < m_ml y := by simpa using hst
      exact lv_astore hx hb hdg hl.1 hlt rfl (fun ls' hl' => k H locs ls' _ _ hR (hl.st rfl hl') hlo rfl rfl)
    · cases h2
  case iadd =>
    simp only [m_step] at h2
    split at h2
    · simp only [Option.some.injEq, Prod.mk.injEq] at h2
      obtain ⟨rfl, rfl, rfl, rfl⟩ := h2
      have e1 : len = 1 := by simp [m_len] at hlen; exact hlen.symm
      subst e1
      exact lv_iadd hx hb hdg (k H locs ls _ _ hR hl hlo rfl rfl)
    · cases h2
  case isub =>
    simp only [m_step] at h2
    split at h2
    · simp only [Option.some.injEq, Prod.mk.injEq] at h2
      obtain ⟨rfl, rfl, rfl, rfl⟩ := h2
      have e1 : len = 1 := by simp [m_len] at hlen; exact hlen.symm
      subst e1
      exact lv_isub hx hb hdg (k H locs ls _ _ hR hl hlo rfl rfl)
    · cases h2
  case imul =>
    simp only [m_step] at h2
    split at h2
    · simp only [Option.some.injEq, Prod.mk.injEq] at h2
      obtain ⟨rfl, rfl, rfl, rfl⟩ := h2
      have e1 : len = 1 := by simp [m_len] at hlen; exact hlen.symm
      subst e1
      exact lv_imul hx hb hdg (k H locs ls _ _ hR hl hlo rfl rfl)
    · cases h2
  case iand =>
    simp only [m_step] at h2
    split at h2
    · simp only [Option.some.injEq, Prod.mk.injEq] at h2
      obtain ⟨rfl, rfl, rfl, rfl⟩ := h2
      have e1 : len = 1 := by simp [m_len] at hlen; exact hlen.symm
      subst e1
      exact lv_iand hx hb hdg (k H locs ls _ _ hR hl hlo rfl rfl)
    · cases h2
  case ior =>
    simp only [m_step] at h2
    split at h2
    · simp only [Option.some.injEq, Prod.mk.injEq] at h2
      obtain ⟨rfl, rfl, rfl, rfl⟩ := h2
      have e1 : len = 1 := by simp [m_len] at hlen; exact hlen.symm
      subst e1
      exact lv_ior hx hb hdg (k H locs ls _ _ hR hl hlo rfl rfl)
    · cases h2
  case ixor =>
    simp only [m_step] at h2
    split at h2
    · simp only [Option.some.injEq, Prod.mk.injEq] at h2
      obtain ⟨rfl, rfl, rfl, rfl⟩ := h2
      have e1 : len = 1 := by simp [m_len] at hlen; exact hlen.symm
      subst e1
      exact lv_ixor hx hb hdg (k H locs ls _ _ hR hl hlo rfl rfl)
    · cases h2
  case ishl =>
    simp only [m_step] at h2
    split at h2
    · simp only [Option.some.injEq, Prod.mk.injEq] at h2
      obtain ⟨rfl, rfl, rfl, rfl⟩ := h2
      have e1 : len = 1 := by simp [m_len] at hlen; exact hlen.symm
      subst e1
      exact lv_ishl hx hb hdg (k H locs ls _ _ hR hl hlo rfl rfl)
    · cases h2
  case lcmp =>
    simp only [m_step] at h2
    split at h2
    · simp only [Option.some.injEq, Prod.mk.injEq] at h2
      obtain ⟨rfl, rfl, rfl, rfl⟩ := h2
      have e1 : len = 1 := by simp [m_len] at hlen; exact hlen.symm
      subst e1
      exact W.lcmp hx hb hdg (k H locs ls _ _ hR hl hlo rfl rfl)
    · cases h2
  case i2l =>
    simp only [m_step] at h2
    split at h2
    · simp only [Option.some.injEq, Prod.mk.injEq] at h2
      obtain ⟨rfl, rfl, rfl, rfl⟩ := h2
      have e1 : len = 1 := by simp [m_len] at hlen; exact hlen.symm
      subst e1
      exact lv_i2l hx hb hdg rfl (k H locs ls _ _ hR hl hlo rfl rfl)
    · cases h2
  case goto off =>
    simp only [m_step, Option.some.injEq, Prod.mk.injEq] at h2
    obtain ⟨rfl, rfl, rfl, rfl⟩ := h2
    have e1 : len = 3 := by simp [m_len] at hlen; exact hlen.symm
    subst e1
    simp only [m_tg, decide_eq_true_eq] at htg
    exact lv_goto hx hb hdg htg (k H locs ls _ _ hR hl hlo rfl rfl)
  case dup =>
    simp only [m_step] at h2
    split at h2
    · simp only [Option.some.injEq, Prod.mk.injEq] at h2
      obtain ⟨rfl, rfl, rfl, rfl⟩ := h2
      have e1 : len = 1 := by simp [m_len] at hlen; exact hlen.symm
      subst e1
      exact lv_dup hx hb hdg rfl (k H locs ls _ _ hR hl hlo rfl rfl)
    · simp only [Option.some.injEq, Prod.mk.injEq] at h2
      obtain ⟨rfl, rfl, rfl, rfl⟩ := h2
      have e1 : len = 1 := by simp [m_len] at hlen; exact hlen.symm
      subst e1
      exact lv_dup hx hb hdg rfl (k H locs ls _ _ hR hl hlo rfl rfl)
    · cases h2
  case pop =>
    simp only [m_step] at h2
    split at h2
    · simp only [Option.some.injEq, Prod.mk.injEq] at h2
      obtain ⟨rfl, rfl, rfl, rfl⟩ := h2
      have e1 : len = 1 := by simp [m_len] at hlen; exact hlen.symm
      subst e1
      exact lv_pop hx hb hdg rfl (k H locs ls _ _ hR hl hlo rfl rfl)
    · simp only [Option.some.injEq, Prod.mk.injEq] at h2
      obtain ⟨rfl, rfl, rfl, rfl⟩ := h2
      have e1 : len = 1 := by simp [m_len] at hlen; exact hlen.symm
      subst e1
      exact lv_pop hx hb hdg rfl (k H locs ls _ _ hR hl hlo rfl rfl)
    · cases h2
  case dup2 =>
    simp only [m_step] at h2
    split at h2
    · simp only [Option.some.injEq, Prod.mk.injEq] at h2
      obtain ⟨rfl, rfl, rfl, rfl⟩ := h2
      have e1 : len = 1 := by simp [m_len] at hlen; exact hlen.symm
      subst e1
      exact lv_dup2_11 hx hb hdg rfl rfl (k H locs ls _ _ hR hl hlo rfl rfl)
    · cases h2
  case iinc kx v =>
    simp only [m_step] at h2
    split at h2
    · rename_i x hv
      simp only [Option.some.injEq, Prod.mk.injEq] at h2
      obtain ⟨rfl, rfl, rfl, rfl⟩ := h2
      have e1 : len = 3 := by simp [m_len] at hlen; exact hlen.symm
      subst e1
      have hm : (kx, Value.int x) ∈ m_asc (m_ad s0.heap.size rom) L := m_asc_mem.mpr ⟨(m_ld_some hv).1, _, hv, rfl⟩
      obtain ⟨j, hj, ej⟩ := List.mem_iff_getElem.mp hm
      have hlt : kx < m_ml y := by rw [← hl.2.2]; exact (m_ld_some hv).1
      exact lv_iinc hx hb hdg hl.1 (k := j) (by rw [List.getElem?_eq_getElem hj, ej]) rfl hlt rfl (fun ls' hl' => k H locs ls' _ _ hR (hl.st (v := .int (x + Int32.ofInt v)) rfl hl') hlo rfl rfl)
    · cases h2
  case getstatic ix => simp [m_spec] at hsp
  case getfield ix =>
    simp only [m_step] at h2
    split at h2
    · rename_i a S1
      split at h2
      · rename_i ci kf cj fs e1 e2
        split at h2
        · rename_i v e3 e4
          simp only [Option.some.injEq, Prod.mk.injEq] at h2
          obtain ⟨rfl, rfl, rfl, rfl⟩ := h2
          have e0 : len = 3 := by simp [m_len] at hlen; exact hlen.symm
          subst e0
          have e5 : ci = cj := beq_iff_eq.mp e3
          subst e5
          obtain ⟨Cn, T, N, f1, f2, f3, f4, f5, f6⟩ := m_fl_ok e1
          obtain ⟨g1, g2, g3, g4, g5, g6, g7, g8, g9, g10⟩ := m_cls_ok f1
          obtain ⟨ha, hb2, hrel⟩ := m_isObj hR hr e2 (by omega)
          rcases hrel with ⟨r, q1, q2, q3⟩ | ⟨q1, -⟩
          · cases f1.symm.trans q1
            exact m_W_get (D := D) (cA := cA) hx hb hown hts g1 hK f1 q3 f3 f4 f2 (v := m_cv (m_ad s0.heap.size rom) v) (by rw [List.getElem?_map, e4]; rfl) hdg (k H locs ls _ _ hR hl hlo rfl rfl)
          · omega
        · cases h2
      · cases h2
    · cases h2
  case putfield ix =>
    simp only [m_step] at h2
    split at h2
    · rename_i v a S1
      split at h2
      · rename_i ci kf cj fs e1 e2
        split at h2
        · rename_i e3
          simp only [Option.some.injEq, Prod.mk.injEq] at h2
          obtain ⟨rfl, rfl, rfl, rfl⟩ := h2
          have e0 : len = 3 := by simp [m_len] at hlen; exact hlen.symm
          subst e0
          simp only [Bool.and_eq_true, decide_eq_true_eq, beq_iff_eq, Bool.or_eq_true, Bool.not_eq_true'] at e3
          obtain ⟨rfl, e4, e5, e6⟩ := e3
          obtain ⟨Cn, T, N, f1, f2, f3, f4, f5, f6⟩ := m_fl_ok e1
          obtain ⟨g1, g2, g3, g4, g5, g6, g7, g8, g9, g10⟩ := m_cls_ok f1
          obtain ⟨ha, hb2, hrel⟩ := m_isObj hR hr e2 (by omega)
          rcases hrel with ⟨r, q1, q2, q3⟩ | ⟨q1, -⟩
          · cases f1.symm.trans q1
            refine m_W_put (D := D) (cA := cA) (ci := ci) hx hb hown hts g1 g2 g3 hK f1 q3 f3 f4 f2 (v := m_cv (m_ad s0.heap.size rom) v) (by rw [List.length_map]; exact e5) (m_fit_cv _ e4) ?_ hdg (fun H1 j t1 t2 t3 => ?_)
            · rcases e6 with q | ⟨q, q'⟩
              · exact Or.inl (f5.trans q)
              · refine Or.inr ⟨?_, ?_⟩
                · rw [hnm]
                  have hq := m_wM y hy
                  simp only [m_ckM, Bool.and_eq_true, decide_eq_true_eq] at hq
                  have h7 := hq.2.2.2.2.2.2.1
                  rw [q] at h7
                  exact of_decide_eq_true h7.symm
                · rw [← f6, q']
            · rw [← List.map_set] at t1
              refine k H1 _ ls _ _ (m_rel_set hR ha (Or.inl ⟨_, f1, by rw [List.length_set]; exact q2, ?_⟩) t2 ?_) hl ?_ rfl rfl
              · rw [m_ad_lt hb2] at t1; exact t1
              · rw [m_ad_lt hb2] at t3; exact t3
              · intro q hq
                rcases List.mem_append.mp hq with hq | hq
                · exact hlo q hq
                · simp only [List.mem_singleton] at hq
                  rw [hq]
                  show s0.heap.size ≤ m_ad _ _ a
                  rw [m_ad_lt hb2]; omega
          · omega
        · cases h2
      · cases h2
    · cases h2
  case arraylength =>
    simp only [m_step] at h2
    split at h2
    · rename_i a S1
      have e0 : len = 1 := by simp [m_len] at hlen; exact hlen.symm
      subst e0
      split at h2
      · rename_i t n f e1
        simp only [Option.some.injEq, Prod.mk.injEq] at h2
        obtain ⟨rfl, rfl, rfl, rfl⟩ := h2
        by_cases ht : t = 0
        · subst ht
          obtain ⟨cell, x1, x2, x3, x4, x5, x6⟩ := m_isInts hR hr hW.alike hK e1
          exact W.alen (n := Int32.ofNat n) hx hb x1 x2 x4.2 rfl rfl hdg (k H locs ls _ _ hR hl hlo rfl rfl)
        · obtain ⟨ha, hb2, hrel⟩ := m_own hR hr (a := a) (by rw [e1]; intro q; cases q) (fun n f => Or.inl (by rw [e1]; intro q; simp at q; exact ht q.1))
          rw [e1] at hrel
          have ht1 : t = 1 := hrel.1.1.resolve_left ht
          subst ht1
          rw [← m_ad_lt (rom := rom) hb2] at hrel
          exact W.alen (n := Int32.ofNat n) hx hb hrel.2 ((hK.2 1 _ rfl).1 n _) (by rw [arrV_size]) rfl rfl hdg (k H locs ls _ _ hR hl hlo rfl rfl)
      · rename_i n f e1
        simp only [Option.some.injEq, Prod.mk.injEq] at h2
        obtain ⟨rfl, rfl, rfl, rfl⟩ := h2
        obtain ⟨ha, hb2, hrel⟩ := m_own hR hr (a := a) (by rw [e1]; intro q; cases q) (fun n f => Or.inl (by rw [e1]; intro q; cases q))
        rw [e1, ← m_ad_lt (rom := rom) hb2] at hrel
        exact W.alen (n := Int32.ofNat n) hx hb hrel.2 ((hK.2 2 _ rfl).1 n _) (by rw [arrV_size]) rfl rfl hdg (k H locs ls _ _ hR hl hlo rfl rfl)
      · rename_i n f e1
        simp only [Option.some.injEq, Prod.mk.injEq] at h2
        obtain ⟨rfl, rfl, rfl, rfl⟩ := h2
        obtain ⟨ha, hb2, hrel⟩ := m_own hR hr (a := a) (by rw [e1]; intro q; cases q) (fun n f => Or.inl (by rw [e1]; intro q; cases q))
        rw [e1, ← m_ad_lt (rom := rom) hb2] at hrel
        exact W.alen (n := Int32.ofNat n) hx hb hrel.2 ((hK.2 3 _ rfl).1 n _) (by rw [arrV_size]) rfl rfl hdg (k H locs ls _ _ hR hl hlo rfl rfl)
      · cases h2
    · cases h2
  case new ix =>
    simp only [m_step] at h2
    split at h2
    rotate_left
    · cases h2
    rename_i ci e1
    split at h2
    · rename_i e7
      simp only [Option.some.injEq, Prod.mk.injEq] at h2
      obtain ⟨rfl, rfl, rfl, rfl⟩ := h2
      have e0 : len = 3 := by simp [m_len] at hlen; exact hlen.symm
      subst e0
      have hci : ci < 7 := by simpa using e7
      obtain ⟨n1, n2⟩ := m_ne_ok e1
      have hgc : m_cls[ci]? = some (m_cls[ci]'(by show ci < 7; exact hci)) := List.getElem?_eq_getElem _
      generalize m_cls[ci]'(by show ci < 7; exact hci) = r at hgc
      obtain ⟨Cn, T, N⟩ := r
      obtain ⟨g1, g2, g3, g4, g5, g6, g7, g8, g9, g10⟩ := m_cls_ok hgc
      rw [g9] at n1
      have hz : H.size = s0.heap.size + h.2.1 := hR.1
      have hb3 : h.2.1 + 1 ≤ 2000000 := hB
      have hC' : cells + (h.2.1 + 1) ≤ R.cells + h.2.1 := hC
      have hS' : slots + (h.2.2 + m_sz ci) ≤ R.slots + h.2.2 := hSl
      have hs : m_sB = 1000000000 := rfl
      refine m_W_new (D := D) (cA := cA) (ci := ci) hx hb hown hts g1 g2 hK hgc n1 g4 g5 (by omega) (by omega) hdg (fun H1 t1 t2 t3 => ?_)
      have e9 : Value.ref H.size :: S.map (m_cv (m_ad s0.heap.size rom)) = (Value.ref h.2.1 :: S).map (m_cv (m_ad s0.heap.size rom)) := by
        rw [List.map_cons]
        show _ = Value.ref (m_ad _ _ _) :: _
        rw [m_ad_lt (by omega), hz]
      rw [e9]
      refine k H1 locs ls _ _ (m_rel_push hR hb3 (Or.inl ⟨_, hgc, g7, ?_⟩) t2 t3) hl hlo ?_ ?_
      · rw [← hz]
        refine t1.to (fun j hj => ?_)
        rw [g8 j hj]
        show _ = ((m_df ci).map (m_cv (m_ad s0.heap.size rom))).getD j Value.null
        have hdn : ∀ v ∈ m_df ci, m_cv (m_ad s0.heap.size rom) v = v := by
          intro v hv
          have hall : ∀ ci, ci < 7 → ∀ v ∈ m_df ci, v = .null ∨ v = .int 0 := by decide
          rcases hall ci hci v hv with rfl | rfl <;> rfl
        rw [List.map_congr_left hdn, List.map_id']
      · show cells + 1 + h.2.1 = cells + (h.2.1 + 1); omega
      · show slots + N + h.2.2 = slots + (h.2.2 + m_sz ci); omega
    · cases h2
  case invokespecial ix =>
    simp only [m_step] at h2
    split at h2
    · rename_i a S1 e1
      split at h2
      · rename_i e3
        simp only [Option.some.injEq, Prod.mk.injEq] at h2
        obtain ⟨rfl, rfl, rfl, rfl⟩ := h2
        have e0 : len = 3 := by simp [m_len] at hlen; exact hlen.symm
        subst e0
        simp only [Bool.and_eq_true, decide_eq_true_eq] at e3
        have h3 := m_pr_ok e1
        simp only [m_ckP, decide_eq_true_eq] at h3
        refine W.objInit hx hb hown (hts _ h3) (hts _ (m_one_in _ (by simp))) (hts _ (m_one_in _ (by simp))) rfl (by rw [hml]; exact hl.1.1) rfl hdg (by rw [hF]; exact e3.1) ?_ ?_
        · have := m_cv_words (m_ad s0.heap.size rom) S1
          have h0 : (F0 m pc ls (Value.ref (m_ad s0.heap.size rom a) :: S1.map (m_cv (m_ad s0.heap.size rom)))).monitorRoom = 0 := rfl
          rw [hLo]
          show 2 * 0 + _ + 12 ≤ _
          rw [this]; omega
        · exact k H locs ls _ _ hR hl hlo rfl rfl
      · cases h2
    · cases h2
  case invokestatic ix =>
    simp only [m_step] at h2
    split at h2
    · rename_i z x S1 e1
      split at h2
      · rename_i e3
        simp only [Option.some.injEq, Prod.mk.injEq] at h2
        obtain ⟨rfl, rfl, rfl, rfl⟩ := h2
        have e0 : len = 3 := by simp [m_len] at hlen; exact hlen.symm
        subst e0
        simp only [Bool.and_eq_true, decide_eq_true_eq] at e3
        have h3 := m_pr_ok e1
        simp only [m_ckP, decide_eq_true_eq] at h3
        refine va_mmax hx hb (by rw [hml]; exact hl.1.1.symm) hown (hts _ h3) (hts _ (m_one_in _ (by simp))) (hts _ (m_one_in _ (by simp))) (hts _ (m_one_in _ (by simp))) (by rw [hF]; exact e3.1) ?_ (by omega) (by omega) hdg (k H locs ls _ _ hR hl hlo rfl rfl)
        rw [m_cv_words, hLo]; exact e3.2
      · cases h2
    · rename_i z x S1 e1
      split at h2
      · rename_i e3
        simp only [Option.some.injEq, Prod.mk.injEq] at h2
        obtain ⟨rfl, rfl, rfl, rfl⟩ := h2
        have e0 : len = 3 := by simp [m_len] at hlen; exact hlen.symm
        subst e0
        simp only [Bool.and_eq_true, decide_eq_true_eq] at e3
        have h3 := m_pr_ok e1
        simp only [m_ckP, decide_eq_true_eq] at h3
        refine va_mmin hx hb (by rw [hml]; exact hl.1.1.symm) hown (hts _ h3) (hts _ (m_one_in _ (by simp))) (hts _ (m_one_in _ (by simp))) (hts _ (m_one_in _ (by simp))) (by rw [hF]; exact e3.1) ?_ (by omega) (by omega) hdg (k H locs ls _ _ hR hl hlo rfl rfl)
        rw [m_cv_words, hLo]; exact e3.2
      · cases h2
    · cases h2
end SIM
end
section
theorem m_updI (f : Nat → Int32) (k : Nat) (x : Int32) : updV (fun j => Value.int (f j)) k (.int x) = fun j => .int (upd f k x j) := by
  funext j
  by_cases q : j = k
  · subst q; simp [updV, upd]
  · simp [updV, upd, q]
theorem m_updJ (f : Nat → Int64) (k : Nat) (x : Int64) : updV (fun j => Value.long (f j)) k (.long x) = fun j => .long (vp_updL f k x j) := by
  funext j
  by_cases q : j = k
  · subst q; simp [updV, vp_updL]
  · simp [updV, vp_updL, q]
section SIM
variable {p : Program} {l : Launch} {e : Env} {R : Room} {s0 s : State} {m : MethodId} {args : Array Value} {below : List Frame} {meth : Method} {c : Code} {H : Heap} {locs : List Loc} {cells slots : Nat} {Q : State → Prop} {ls : Array Slot}
variable {rom : Nat → Nat} {romC : Nat → mC} {D : va_G} {cA eC : Nat → ClassId} {y pc len tgt pc' : Nat} {i : Instr} {L L' : mL} {S S' : List Value} {h h' : mH}
set_option maxHeartbeats 4000000 in
/-- a branch -/
theorem m_simB {cc : ClassFile.Cond} {x z : Int32} (C : m_Fr p s0 s m args meth c y) (h1 : m_at y pc = some (i, len, tgt)) (h2 : m_br i S = some (cc, x, z, S'))
    (kt : m_cnd cc x z → W p l e R s m args below meth c H locs cells slots Q (F0 m tgt ls (S'.map (m_cv (m_ad s0.heap.size rom)))))
    (kf : ¬ m_cnd cc x z → W p l e R s m args below meth c H locs cells slots Q (F0 m (pc + len) ls (S'.map (m_cv (m_ad s0.heap.size rom))))) :
    W p l e R s m args below meth c H locs cells slots Q (F0 m pc ls (S.map (m_cv (m_ad s0.heap.size rom)))) := by
  obtain ⟨hx, hb, hml, hown, hW, hts, hnm, hrt, hlk, hex, hy⟩ := C
  obtain ⟨hdg, hck⟩ := m_at_ok hy h1
  simp only [m_ck2, Bool.and_eq_true, Bool.or_eq_true, decide_eq_true_eq] at hck
  obtain ⟨hlen, htg, -⟩ := hck
  unfold m_br at h2
  split at h2
  · split at h2
    · simp only [Option.some.injEq, Prod.mk.injEq] at h2
      obtain ⟨rfl, rfl, rfl, rfl⟩ := h2
      have e1 : len = 3 := by simp [m_len] at hlen; exact hlen.symm
      subst e1
      simp only [m_tg, decide_eq_true_eq] at htg
      rename_i cc off _ _ _
      cases cc
      · exact lv_if_eq hx hb hdg htg kt kf
      · exact lv_if_ne hx hb hdg htg kt (fun q => kf (fun hn => hn q))
      · exact lv_if_lt hx hb hdg htg kt kf
      · exact lv_if_ge hx hb hdg htg kt kf
      · exact lv_if_gt hx hb hdg htg kt kf
      · exact lv_if_le hx hb hdg htg kt kf
    · cases h2
  · split at h2
    · simp only [Option.some.injEq, Prod.mk.injEq] at h2
      obtain ⟨rfl, rfl, rfl, rfl⟩ := h2
      have e1 : len = 3 := by simp [m_len] at hlen; exact hlen.symm
      subst e1
      simp only [m_tg, decide_eq_true_eq] at htg
      rename_i cc off _ _ _ _
      cases cc
      · exact lv_icmp_eq hx hb hdg htg kt kf
      · exact lv_icmp_ne hx hb hdg htg kt (fun q => kf (fun hn => hn q))
      · exact lv_icmp_lt hx hb hdg htg kt kf
      · exact lv_icmp_ge hx hb hdg htg kt kf
      · exact lv_icmp_gt hx hb hdg htg kt kf
      · exact lv_icmp_le hx hb hdg htg kt kf
    · cases h2
  · cases h2
set_option maxHeartbeats 4000000 in
/-- a load from an array -/
theorem m_simL {j : Int32} {n : Nat} {f : Nat → Value} (C : m_Fr p s0 s m args meth c y) (hK : va_K D m_cls (m_at0 cA) s) (hr : m_romOk s0 rom romC) (hR : m_Rel s0 rom romC D cA eC h H) (h1 : m_at y pc = some (i, len, tgt)) (h2 : m_al i S h = some (j, n, f, S')) (hin : m_in j n)
    (k : W p l e R s m args below meth c H locs cells slots Q (F0 m (pc + len) ls ((f j.toNatClampNeg :: S').map (m_cv (m_ad s0.heap.size rom))))) :
    W p l e R s m args below meth c H locs cells slots Q (F0 m pc ls (S.map (m_cv (m_ad s0.heap.size rom)))) := by
  obtain ⟨hx, hb, hml, hown, hW, hts, hnm, hrt, hlk, hex, hy⟩ := C
  obtain ⟨hdg, hck⟩ := m_at_ok hy h1
  simp only [m_ck2, Bool.and_eq_true, Bool.or_eq_true, decide_eq_true_eq] at hck
  obtain ⟨hlen, -, -⟩ := hck
  have hlt : j.toNatClampNeg < n := Nat.not_le.mp fun q => hin (Or.inr q)
  unfold m_al at h2
  split at h2
  · rename_i j' a S1
    split at h2
    · rename_i n' f' e1
      simp only [Option.some.injEq, Prod.mk.injEq] at h2
      obtain ⟨rfl, rfl, rfl, rfl⟩ := h2
      have e0 : len = 1 := by simp [m_len] at hlen; exact hlen.symm
      subst e0
      obtain ⟨cell, x1, x2, x3, x4, x5, x6⟩ := m_isInts hR hr hW.alike hK e1
      exact W.iald hx hb x1 x2 x3 (fun q => q.elim (fun q => hin (Or.inl q)) (fun q => by have := x4.1; omega)) (x6 _ hlt) rfl rfl hdg k
    · rename_i n' f' e1
      simp only [Option.some.injEq, Prod.mk.injEq] at h2
      obtain ⟨rfl, rfl, rfl, rfl⟩ := h2
      have e0 : len = 1 := by simp [m_len] at hlen; exact hlen.symm
      subst e0
      obtain ⟨ha, hb2, hrel⟩ := m_own hR hr (a := a) (by rw [e1]; intro q; cases q) (fun n f => Or.inl (by rw [e1]; intro q; simp at q))
      rw [e1, ← m_ad_lt (rom := rom) hb2] at hrel
      exact W.zald hx hb hrel.2 ((hK.2 1 _ rfl).1 n' _) (fun q => by cases q) (by rw [arrV_size]; exact hin) (arrV_read _ _ hlt) rfl rfl hdg k
    · rename_i n' f' e1
      simp only [Option.some.injEq, Prod.mk.injEq] at h2
      obtain ⟨rfl, rfl, rfl, rfl⟩ := h2
      have e0 : len = 1 := by simp [m_len] at hlen; exact hlen.symm
      subst e0
      obtain ⟨ha, hb2, hrel⟩ := m_own hR hr (a := a) (by rw [e1]; intro q; cases q) (fun n f => Or.inl (by rw [e1]; intro q; cases q))
      rw [e1, ← m_ad_lt (rom := rom) hb2] at hrel
      exact W.lald hx hb hrel.2 ((hK.2 2 _ rfl).1 n' _) (fun q => by cases q) (by rw [arrV_size]; exact hin) (arrV_read _ _ hlt) rfl rfl hdg k
    · rename_i n' f' e1
      simp only [Option.some.injEq, Prod.mk.injEq] at h2
      obtain ⟨rfl, rfl, rfl, rfl⟩ := h2
      have e0 : len = 1 := by simp [m_len] at hlen; exact hlen.symm
      subst e0
      obtain ⟨ha, hb2, hrel⟩ := m_own hR hr (a := a) (by rw [e1]; intro q; cases q) (fun n f => Or.inl (by rw [e1]; intro q; cases q))
      rw [e1, ← m_ad_lt (rom := rom) hb2] at hrel
      exact W.aald hx hb hrel.2 ((hK.2 3 _ rfl).1 n' _) rfl (fun q => by cases q) (by rw [arrV_size]; exact hin) (arrV_read _ _ hlt) rfl rfl hdg k
    · cases h2
  · cases h2
set_option maxHeartbeats 4000000 in
/-- a store into an array -/
theorem m_simT {j : Int32} {n a : Nat} {cf : Nat → mC} (C : m_Fr p s0 s m args meth c y) (hK : va_K D m_cls (m_at0 cA) s) (hr : m_romOk s0 rom romC) (hR : m_Rel s0 rom romC D cA eC h H) (h1 : m_at y pc = some (i, len, tgt)) (h2 : m_as i S h = some (j, n, true, a, cf, S')) (hin : m_in j n) (hlo : ∀ q ∈ locs, s0.heap.size ≤ q.base)
    (k : ∀ (H' : Heap) (locs' : List Loc), m_Rel s0 rom romC D cA eC (m_set h a (cf j.toNatClampNeg)) H' → (∀ q ∈ locs', s0.heap.size ≤ q.base) → W p l e R s m args below meth c H' locs' cells slots Q (F0 m (pc + len) ls (S'.map (m_cv (m_ad s0.heap.size rom))))) :
    W p l e R s m args below meth c H locs cells slots Q (F0 m pc ls (S.map (m_cv (m_ad s0.heap.size rom)))) := by
  obtain ⟨hx, hb, hml, hown, hW, hts, hnm, hrt, hlk, hex, hy⟩ := C
  obtain ⟨hdg, hck⟩ := m_at_ok hy h1
  simp only [m_ck2, Bool.and_eq_true, Bool.or_eq_true, decide_eq_true_eq] at hck
  obtain ⟨hlen, -, -⟩ := hck
  have hlocs : ∀ jj : Nat, a < m_sB → ∀ q ∈ locs ++ [⟨m_ad s0.heap.size rom a, jj⟩], s0.heap.size ≤ q.base := by
    intro jj ha q hq
    rcases List.mem_append.mp hq with hq | hq
    · exact hlo q hq
    · simp only [List.mem_singleton] at hq
      rw [hq]
      show s0.heap.size ≤ m_ad _ _ a
      rw [m_ad_lt ha]; omega
  unfold m_as at h2
  split at h2
  · split at h2
    · rename_i x j' a' S1
      split at h2
      · rename_i n' f' e1
        simp only [Option.some.injEq, Prod.mk.injEq, decide_eq_true_eq] at h2
        obtain ⟨rfl, rfl, hlt, rfl, rfl, rfl⟩ := h2
        have e0 : len = 1 := by simp [m_len] at hlen; exact hlen.symm
        subst e0
        obtain ⟨ha, hb2, hrel⟩ := m_own hR hr (a := a') (by rw [e1]; intro q; cases q) (fun n f => Or.inr hlt)
        rw [e1] at hrel
        obtain ⟨hr1, hr2⟩ := hrel
        rw [← m_ad_lt (rom := rom) hb2] at hr2
        refine W.iast hx hb hr2 ((hK.2 0 _ rfl).1 n' _) (fun q => by cases q) (by rw [arrV_size]; exact hin) rfl rfl hdg (fun H' t1 t2 t3 => ?_)
        refine k H' _ (m_rel_set hR ha ⟨hr1, ?_⟩ t2 (by rw [m_ad_lt hb2] at t3; exact t3)) (hlocs _ hlt)
        rw [m_ad_lt hb2] at t1
        rw [t1, arrV_store, m_updI]
      · cases h2
    · cases h2
  · split at h2
    · rename_i x j' a' S1
      split at h2
      · rename_i n' f' e1
        simp only [Option.some.injEq, Prod.mk.injEq, decide_eq_true_eq, Bool.and_eq_true, Bool.or_eq_true] at h2
        obtain ⟨rfl, rfl, ⟨hz, hlt⟩, rfl, rfl, rfl⟩ := h2
        have e0 : len = 1 := by simp [m_len] at hlen; exact hlen.symm
        subst e0
        obtain ⟨ha, hb2, hrel⟩ := m_own hR hr (a := a') (by rw [e1]; intro q; cases q) (fun n f => Or.inr hlt)
        rw [e1] at hrel
        obtain ⟨hr1, hr2⟩ := hrel
        rw [← m_ad_lt (rom := rom) hb2] at hr2
        have hnz : narrow .boolean (.int x) = .int x := by rcases hz with rfl | rfl <;> decide
        refine W.zast hx hb hr2 ((hK.2 1 _ rfl).1 n' _) (fun q => by cases q) (by rw [arrV_size]; exact hin) rfl rfl hdg (fun H' t1 t2 t3 => ?_)
        rw [hnz] at t1
        refine k H' _ (m_rel_set hR ha ⟨hr1, ?_⟩ t2 (by rw [m_ad_lt hb2] at t3; exact t3)) (hlocs _ hlt)
        rw [m_ad_lt hb2] at t1
        rw [t1, arrV_store, m_updI]
      · cases h2
    · cases h2
  · split at h2
    · rename_i x j' a' S1
      split at h2
      · rename_i n' f' e1
        simp only [Option.some.injEq, Prod.mk.injEq, decide_eq_true_eq] at h2
        obtain ⟨rfl, rfl, hlt, rfl, rfl, rfl⟩ := h2
        have e0 : len = 1 := by simp [m_len] at hlen; exact hlen.symm
        subst e0
        obtain ⟨ha, hb2, hrel⟩ := m_own hR hr (a := a') (by rw [e1]; intro q; cases q) (fun n f => Or.inr hlt)
        rw [e1] at hrel
        obtain ⟨hr1, hr2⟩ := hrel
        rw [← m_ad_lt (rom := rom) hb2] at hr2
        refine W.last hx hb hr2 ((hK.2 2 _ rfl).1 n' _) (fun q => by cases q) (by rw [arrV_size]; exact hin) rfl rfl hdg (fun H' t1 t2 t3 => ?_)
        refine k H' _ (m_rel_set hR ha ⟨hr1, ?_⟩ t2 (by rw [m_ad_lt hb2] at t3; exact t3)) (hlocs _ hlt)
        rw [m_ad_lt hb2] at t1
        rw [t1, arrV_store, m_updJ]
      · cases h2
    · cases h2
  · cases h2
end SIM
end
section
theorem m_rel_pushG {s0 : State} {rom : Nat → Nat} {romC : Nat → mC} {D : va_G} {cA eC : Nat → ClassId} {h : mH} {H H1 : Heap} (R : m_Rel s0 rom romC D cA eC h H) {n k : Nat} (hb : h.2.1 + 1 + n ≤ 2000000) (hn : n ≤ 1000000) (hk : k ≤ 1000000) (hz : H1.size = H.size + 1 + n) (ho : ∀ q, q < H.size → H1[q]? = H[q]?)
    (h0 : H1[H.size]? = some (arrV (cA 3) n (fun j => .ref (H.size + 1 + j)))) (h1 : ∀ j, j < n → H1[H.size + 1 + j]? = some (arrV (cA 0) k (fun _ => .int 0))) : m_Rel s0 rom romC D cA eC (m_pushG h n k) H1 := by
  obtain ⟨r1, r2, r3, r4, r5, r6⟩ := R
  have hs : m_sB = 1000000000 := rfl
  refine ⟨by show H1.size = s0.heap.size + (h.2.1 + 1 + n); omega, hb, fun j hj => ?_, fun j g1 g2 => ?_, fun j => ?_, fun q hq => ?_⟩
  · have hj' : j < h.2.1 + 1 + n := hj
    show m_rel1 _ _ _ _ (if j = h.2.1 then mG n (fun i => h.2.1 + 1 + i) else if h.2.1 < j ∧ j < h.2.1 + 1 + n then mI k (fun _ => 0) else h.1 j) _ _
    by_cases q : j = h.2.1
    · rw [if_pos q, q, ← r1]
      refine ⟨hn, ?_⟩
      rw [h0]
      congr 1
      unfold arrV
      congr 1
      congr 1
      funext x
      have hx := x.isLt
      show Value.ref (H.size + 1 + x.val) = Value.ref (m_ad s0.heap.size rom (h.2.1 + 1 + x.val))
      have hh : m_ad s0.heap.size rom (h.2.1 + 1 + x.val) = H.size + 1 + x.val := by
        rw [m_ad_lt (by omega), r1]; omega
      rw [hh]
    · rw [if_neg q]
      by_cases q2 : h.2.1 < j ∧ j < h.2.1 + 1 + n
      · rw [if_pos q2]
        refine ⟨⟨Or.inl rfl, hk⟩, ?_⟩
        have := h1 (j - h.2.1 - 1) (by omega)
        rw [show H.size + 1 + (j - h.2.1 - 1) = s0.heap.size + j by omega] at this
        exact this
      · rw [if_neg q2]; exact m_rel1_kept (r3 j (by omega)) (ho _ (by omega))
  · have g1' : h.2.1 + 1 + n ≤ j := g1
    show (if j = h.2.1 then mG n (fun i => h.2.1 + 1 + i) else if h.2.1 < j ∧ j < h.2.1 + 1 + n then mI k (fun _ => 0) else h.1 j) = _
    rw [if_neg (by omega), if_neg (by omega)]; exact r4 j (by omega) g2
  · show (if _ = h.2.1 then mG n (fun i => h.2.1 + 1 + i) else if h.2.1 < _ ∧ _ < h.2.1 + 1 + n then mI k (fun _ => 0) else h.1 _) = _
    rw [if_neg (by omega), if_neg (by omega)]; exact r5 j
  · rw [ho q (by omega)]; exact r6 q hq
set_option maxRecDepth 100000 in
theorem m_ma_in : [Cond.classLink (m_R 0) 54 "[[I", Cond.classLink (m_R 1) 21 "[[I"].all (fun w => decide (w ∈ m_tb)) = true := by decide +kernel
theorem m_ma_ok {o ix : Nat} (h : m_ma o ix = true) : Cond.classLink (m_R o) ix "[[I" ∈ m_tb := by
  have hq := List.all_eq_true.mp m_ma_in
  match o, h with
  | 0, h =>
    have : ix = 54 := by simpa [m_ma, m_mas] using h
    subst this
    exact of_decide_eq_true (hq _ (by simp))
  | 1, h =>
    have : ix = 21 := by simpa [m_ma, m_mas] using h
    subst this
    exact of_decide_eq_true (hq _ (by simp))
  | n + 2, h =>
    exfalso
    have : m_mas.getD (n + 2) [] = [] := by
      match n with
      | 0 => rfl
      | 1 => rfl
      | 2 => rfl
      | 3 => rfl
      | 4 => rfl
      | 5 => rfl
      | 6 => rfl
      | 7 => rfl
      | 8 => rfl
      | k + 9 => simp [m_mas]
    unfold m_ma at h
    rw [this] at h
    simp at h
theorem m_outer (c : ClassId) (N h0 : Nat) : ∀ i : Nat, Jvm.Free.Multi.outerC c N h0 i = arrV c N (fun j => if j < i then .ref (h0 + 1 + j) else .null)
  | 0 => by
    show ({ cls := c, slots := Array.replicate N .null, vm := .none } : Cell) = _
    rw [arrV_new]
    exact congrArg (arrV c N) (funext fun j => by simp)
  | i + 1 => by
    show (Jvm.Free.Multi.outerC c N h0 i).setSlot i (.ref (h0 + 1 + i)) = _
    rw [m_outer c N h0 i, arrV_store]
    refine congrArg (arrV c N) (funext fun j => ?_)
    by_cases q : j = i
    · subst q; simp [updV]
    · by_cases h : j < i
      · simp [updV, q, h, Nat.lt_succ_of_lt h]
      · simp [updV, q, h, show ¬ j < i + 1 by omega]
section SIM
variable {p : Program} {l : Launch} {e : Env} {R : Room} {s0 s : State} {m : MethodId} {args : Array Value} {below : List Frame} {meth : Method} {c : Code} {H : Heap} {locs : List Loc} {cells slots : Nat} {Q : State → Prop} {ls : Array Slot}
variable {rom : Nat → Nat} {romC : Nat → mC} {D : va_G} {cA eC : Nat → ClassId} {y pc len tgt pc' : Nat} {i : Instr} {L L' : mL} {S S' : List Value} {h h' : mH}
set_option maxHeartbeats 4000000 in
theorem m_simM (C : m_Fr p s0 s m args meth c y) (hK : va_K D m_cls (m_at0 cA) s) (hov : (Cond.arrayOver (.array .int)).before args s = true) (hr : m_romOk s0 rom romC) (hR : m_Rel s0 rom romC D cA eC h H) (hl : m_Loc (m_ad s0.heap.size rom) ls (m_ml y) L) (hF : R.frames = m_nf y) (hLo : R.locals = m_nw y)
    (h1 : m_at y pc = some (i, len, tgt)) (h2 : m_more y pc i len L S h = some (pc', L', S', h')) (hC : cells + h'.2.1 ≤ R.cells + h.2.1) (hSl : slots + h'.2.2 ≤ R.slots + h.2.2) (hB : h'.2.1 ≤ 2000000) (hlo : ∀ q ∈ locs, s0.heap.size ≤ q.base)
    (k : ∀ (H' : Heap) (locs' : List Loc) (ls' : Array Slot) (cells' slots' : Nat), m_Rel s0 rom romC D cA eC h' H' → m_Loc (m_ad s0.heap.size rom) ls' (m_ml y) L' → (∀ q ∈ locs', s0.heap.size ≤ q.base) → cells' + h.2.1 = cells + h'.2.1 → slots' + h.2.2 = slots + h'.2.2 →
      W p l e R s m args below meth c H' locs' cells' slots' Q (F0 m pc' ls' (S'.map (m_cv (m_ad s0.heap.size rom))))) :
    W p l e R s m args below meth c H locs cells slots Q (F0 m pc ls (S.map (m_cv (m_ad s0.heap.size rom)))) := by
  obtain ⟨hx, hb, hml, hown, hW, hts, hnm, hrt, hlk, hex, hy⟩ := C
  obtain ⟨hdg, hck⟩ := m_at_ok hy h1
  simp only [m_ck2, Bool.and_eq_true, Bool.or_eq_true, decide_eq_true_eq] at hck
  obtain ⟨hlen, htg, hst⟩ := hck
  have hz : H.size = s0.heap.size + h.2.1 := hR.1
  have hs : m_sB = 1000000000 := rfl
  have hR2 : h.2.1 ≤ 2000000 := hR.2.1
  unfold m_more at h2
  split at h2
  · -- newarray
    rename_i t
    split at h2
    · rename_i n S1
      split at h2
      · rename_i cell e1
        by_cases hn : ¬ n < 0 ∧ n.toNatClampNeg ≤ 1000000
        · rw [m_if_t hn] at h2
          simp only [Option.some.injEq, Prod.mk.injEq] at h2
          obtain ⟨rfl, rfl, rfl, rfl⟩ := h2
          have e0 : len = 2 := by simp [m_len] at hlen; exact hlen.symm
          subst e0
          have hC' : cells + (h.2.1 + 1) ≤ R.cells + h.2.1 := hC
          have hS' : slots + (h.2.2 + n.toNatClampNeg) ≤ R.slots + h.2.2 := hSl
          have hB' : h.2.1 + 1 ≤ 2000000 := hB
          have e9 : Value.ref H.size :: S1.map (m_cv (m_ad s0.heap.size rom)) = (Value.ref h.2.1 :: S1).map (m_cv (m_ad s0.heap.size rom)) := by
            rw [List.map_cons]
            show _ = Value.ref (m_ad _ _ _) :: _
            rw [m_ad_lt (by omega), hz]
          have fin : ∀ (H' : Heap), m_rel1 D cA eC (m_ad s0.heap.size rom) cell H.size H' → H'.size = H.size + 1 → (∀ q, q < H.size → H'[q]? = H[q]?) → W p l e R s m args below meth c H' locs (cells + 1) (slots + n.toNatClampNeg) Q (F0 m (pc + 2) ls (Value.ref H.size :: S1.map (m_cv (m_ad s0.heap.size rom)))) := by
            intro H' t1 t2 t3
            rw [e9]
            exact k H' locs ls _ _ (m_rel_push hR hB' (by rw [← hz]; exact t1) t2 t3) hl hlo (by show cells + 1 + h.2.1 = cells + (h.2.1 + 1); omega) (by show slots + n.toNatClampNeg + h.2.2 = slots + (h.2.2 + n.toNatClampNeg); omega)
          unfold m_arr at e1
          split at e1
          · cases e1
            refine va_newaK hx hb (hts _ (m_one_in _ (by simp [newarray.typeOf]))) rfl hdg rfl hn.1 rfl (by simp [newarray.typeOf, componentBytes]; omega) (by omega) (by omega) rfl (fun H' cA' t1 t2 t3 t4 t5 => ?_)
            have ec : cA' = cA 0 := Option.some.inj (t5.symm.trans (hK.2 0 _ rfl).2)
            subst ec
            exact fin H' ⟨⟨Or.inl rfl, hn.2⟩, t1⟩ t2 t3
          · cases e1
            refine va_newaK hx hb (hts _ (m_one_in _ (by simp [newarray.typeOf]))) rfl hdg rfl hn.1 rfl (by simp [newarray.typeOf, componentBytes]; omega) (by omega) (by omega) rfl (fun H' cA' t1 t2 t3 t4 t5 => ?_)
            have ec : cA' = cA 1 := Option.some.inj (t5.symm.trans (hK.2 1 _ rfl).2)
            subst ec
            exact fin H' ⟨⟨Or.inr rfl, hn.2⟩, t1⟩ t2 t3
          · cases e1
            refine va_newaK hx hb (hts _ (m_one_in _ (by simp [newarray.typeOf]))) rfl hdg rfl hn.1 rfl (by simp [newarray.typeOf, componentBytes]; omega) (by omega) (by omega) rfl (fun H' cA' t1 t2 t3 t4 t5 => ?_)
            have ec : cA' = cA 2 := Option.some.inj (t5.symm.trans (hK.2 2 _ rfl).2)
            subst ec
            exact fin H' ⟨hn.2, t1⟩ t2 t3
          · cases e1
        · rw [m_if_f hn] at h2; cases h2
      · cases h2
    · cases h2
  · -- multianewarray
    rename_i ix
    split at h2
    · rename_i kk n S1 e1
      by_cases hn : (¬ kk < 0 ∧ kk.toNatClampNeg ≤ 1000000) ∧ (¬ n < 0 ∧ n.toNatClampNeg ≤ 1000000)
      · rw [m_if_t hn] at h2
        simp only [Option.some.injEq, Prod.mk.injEq] at h2
        obtain ⟨rfl, rfl, rfl, rfl⟩ := h2
        have e0 : len = 4 := by simp [m_len] at hlen; exact hlen.symm
        subst e0
        have hC' : cells + (h.2.1 + 1 + n.toNatClampNeg) ≤ R.cells + h.2.1 := hC
        have hS' : slots + (h.2.2 + (n.toNatClampNeg + n.toNatClampNeg * kk.toNatClampNeg)) ≤ R.slots + h.2.2 := hSl
        have hB' : h.2.1 + 1 + n.toNatClampNeg ≤ 2000000 := hB
        intro T hT Xs
        obtain ⟨vm₁, cA', comp, -, fA, fC, hO, -, X', step⟩ := Xs.multianewarray2F (ty := .int) hx hown (hts _ (m_ma_ok e1)) hov (hts _ (m_one_in _ (by simp))) (g := F0 m pc ls (.int kk :: .int n :: S1.map (m_cv (m_ad s0.heap.size rom)))) rfl (by rw [hb]; exact hdg) rfl hn.2.1 hn.1.1 (by omega) (by simp [componentBytes]; omega) (by omega) rfl rfl (by omega) (by omega)
        have ec3 : cA' = cA 3 := Option.some.inj (fA.symm.trans (hK.2 3 _ rfl).2)
        have ec0 : comp = cA 0 := Option.some.inj (fC.symm.trans (hK.2 0 _ rfl).2)
        subst ec3
        subst ec0
        obtain ⟨f1, f2, -, -⟩ := Jvm.Free.Multi.fill_facts (T.setVm vm₁) (cA 3) (cA 0) n.toNatClampNeg kk.toNatClampNeg (defaultValue .int) n.toNatClampNeg
        have hold : ∀ x : Nat, x < H.size → (Jvm.Free.Multi.fill (T.setVm vm₁) (cA 3) (cA 0) n.toNatClampNeg kk.toNatClampNeg (defaultValue .int) n.toNatClampNeg).heap[x]? = H[x]? := fun x hx => by
          have := Jvm.Free.Multi.fill_old (T.setVm vm₁) (cA 3) (cA 0) n.toNatClampNeg kk.toNatClampNeg (defaultValue .int) (a := x) (by show x < T.heap.size; rw [hT]; exact hx) n.toNatClampNeg
          rw [this]
          show T.heap[x]? = _
          rw [hT]
        have hrow : ∀ j : Nat, j < n.toNatClampNeg → (Jvm.Free.Multi.fill (T.setVm vm₁) (cA 3) (cA 0) n.toNatClampNeg kk.toNatClampNeg (defaultValue .int) n.toNatClampNeg).heap[H.size + 1 + j]? = some (arrV (cA 0) kk.toNatClampNeg (fun _ => .int 0)) := fun j hj => by
          have := Jvm.Free.Multi.fill_inner (T.setVm vm₁) (cA 3) (cA 0) n.toNatClampNeg kk.toNatClampNeg (defaultValue .int) n.toNatClampNeg j hj
          rw [show (T.setVm vm₁).heap.size = H.size by show T.heap.size = _; rw [hT]] at this
          rw [this, ← arrV_new]
          rfl
        have hTs : (T.setVm vm₁).heap.size = H.size := by show T.heap.size = _; rw [hT]
        rw [hTs] at f1 f2
        have e9 : (Value.ref T.heap.size :: S1.map (m_cv (m_ad s0.heap.size rom))) = (Value.ref h.2.1 :: S1).map (m_cv (m_ad s0.heap.size rom)) := by
          rw [List.map_cons, hT]
          show _ = Value.ref (m_ad _ _ _) :: _
          rw [m_ad_lt (by omega), hz]
        have fin := k (Jvm.Free.Multi.fill (T.setVm vm₁) (cA 3) (cA 0) n.toNatClampNeg kk.toNatClampNeg (defaultValue .int) n.toNatClampNeg).heap locs ls (cells + 1 + n.toNatClampNeg) (slots + n.toNatClampNeg + n.toNatClampNeg * kk.toNatClampNeg)
          (m_rel_pushG hR hB' hn.2.2 hn.1.2 (by rw [f1]) hold (by rw [f2, m_outer]; congr 1; unfold arrV; congr 1; congr 1; funext x; exact if_pos x.isLt) hrow) hl hlo
          (by show cells + 1 + n.toNatClampNeg + h.2.1 = cells + (h.2.1 + 1 + n.toNatClampNeg); omega) (by show slots + n.toNatClampNeg + n.toNatClampNeg * kk.toNatClampNeg + h.2.2 = slots + (h.2.2 + (n.toNatClampNeg + n.toNatClampNeg * kk.toNatClampNeg)); omega)
        rw [← e9] at fin
        obtain ⟨t, a1, b1⟩ := fin _ rfl X'
        exact ⟨t, step t a1, b1⟩
      · rw [m_if_f hn] at h2; cases h2
    · cases h2
  · -- idiv
    split at h2
    · rename_i z x S1
      by_cases hn : ¬ z = 0
      · rw [m_if_t hn] at h2
        simp only [Option.some.injEq, Prod.mk.injEq] at h2
        obtain ⟨rfl, rfl, rfl, rfl⟩ := h2
        have e0 : len = 1 := by simp [m_len] at hlen; exact hlen.symm
        subst e0
        exact lv_idiv hx hb hdg hn (k H locs ls _ _ hR hl hlo rfl rfl)
      · rw [m_if_f hn] at h2; cases h2
    · cases h2
  · split at h2
    · rename_i z x S1
      by_cases hn : ¬ z = 0
      · rw [m_if_t hn] at h2
        simp only [Option.some.injEq, Prod.mk.injEq] at h2
        obtain ⟨rfl, rfl, rfl, rfl⟩ := h2
        have e0 : len = 1 := by simp [m_len] at hlen; exact hlen.symm
        subst e0
        exact lv_irem hx hb hdg hn (k H locs ls _ _ hR hl hlo rfl rfl)
      · rw [m_if_f hn] at h2; cases h2
    · cases h2
  · -- tableswitch
    rename_i d lo hi offs
    split at h2
    · rename_i x S1
      split at h2
      · rename_i t e1
        simp only [Option.some.injEq, Prod.mk.injEq] at h2
        obtain ⟨rfl, rfl, rfl, rfl⟩ := h2
        unfold m_sw at e1
        split at e1
        · rename_i hq
          have e2 : (pc : Int) + d = (t : Int) := Option.some.inj e1
          exact lv_tableOut hx hb hdg hq e2 (k H locs ls _ _ hR hl hlo rfl rfl)
        · rename_i hq
          rw [Option.map_eq_some_iff] at e1
          obtain ⟨o, e3, e4⟩ := e1
          have e2 : (pc : Int) + o = (t : Int) := e4
          exact lv_tableIn hx hb hdg (fun q => hq (Or.inl q)) (fun q => hq (Or.inr q)) e3 e2 (k H locs ls _ _ hR hl hlo rfl rfl)
      · cases h2
    · cases h2
  · -- arraycopy
    rename_i ix
    split at h2
    · rename_i n dp b sp a S1 e1
      split at h2
      · rename_i n0 f n1 g ea eb
        by_cases hn : ((¬ sp < 0 ∧ ¬ dp < 0) ∧ (¬ n < 0 ∧ a < m_sB)) ∧ ((sp.toNatClampNeg + n.toNatClampNeg ≤ n0 ∧ dp.toNatClampNeg + n.toNatClampNeg ≤ n1) ∧ (b < m_sB ∧ (1 ≤ m_nf y ∧ m_words S1 + 18 ≤ m_nw y)))
        · rw [m_if_t hn] at h2
          simp only [Option.some.injEq, Prod.mk.injEq] at h2
          obtain ⟨rfl, rfl, rfl, rfl⟩ := h2
          have e0 : len = 3 := by simp [m_len] at hlen; exact hlen.symm
          subst e0
          obtain ⟨⟨⟨q1, q2⟩, q3, q4⟩, ⟨q5, q6⟩, q7, q8, q9⟩ := hn
          obtain ⟨ha, ha2, hra⟩ := m_own hR hr (a := a) (by rw [ea]; intro q; cases q) (fun n f => Or.inr q4)
          obtain ⟨hb1, hb2, hrb⟩ := m_own hR hr (a := b) (by rw [eb]; intro q; cases q) (fun n f => Or.inr q7)
          rw [ea] at hra
          rw [eb] at hrb
          obtain ⟨hra1, hra2⟩ := hra
          obtain ⟨hrb1, hrb2⟩ := hrb
          rw [← m_ad_lt (rom := rom) ha2] at hra2
          rw [← m_ad_lt (rom := rom) hb2] at hrb2
          have h3 := m_pr_ok e1
          simp only [m_ckP, decide_eq_true_eq] at h3
          have nn : ∀ z : Int32, ¬ z < 0 → z.toInt = (z.toNatClampNeg : Int) := by
            intro z hz
            have hz0 : (0 : Int) ≤ z.toInt := by
              have := Int32.not_lt.mp hz
              simpa using Int32.le_iff_toInt_le.mp this
            show z.toInt = ((z.toInt.toNat : Nat) : Int)
            omega
          intro T hT X
          obtain ⟨-, k0, hk0, cm0, hkk0⟩ := (hK.2 0 _ rfl).1 n0 (fun j => .int (f j))
          obtain ⟨-, k1, hk1, cm1, hkk1⟩ := (hK.2 0 _ rfl).1 n1 (fun j => .int (g j))
          obtain ⟨vm', X', step⟩ := X.arraycopy hx hown (hts _ h3) (hts _ (m_one_in _ (by simp))) (hts _ (m_one_in _ (by simp))) (hts _ (m_one_in _ (by simp))) (src := m_ad s0.heap.size rom a) (dst := m_ad s0.heap.size rom b) (cs := arrV (cA 0) n0 (fun j => .int (f j))) (cd := arrV (cA 0) n1 (fun j => .int (g j))) (srcPos := sp) (destPos := dp) (n := n) (by rw [hT]; exact hra2) (by rw [hT]; exact hrb2)
            (fun _ h => by cases h) (fun _ h => by cases h) (fun h => by cases h) (fun h => by cases h) hk0 hk1 hkk0 hkk1 (by simp [refKind]) q1 q2 q3
            (by rw [nn sp q1, nn n q3, arrV_size]; omega)
            (by rw [nn dp q2, nn n q3, arrV_size]; omega)
            (fun vm₁ _ i hi => by
              have e : (arrV (cA 0) n0 (fun j => .int (f j))).slots.getD (sp.toNatClampNeg + i) .null = .int (f (sp.toNatClampNeg + i)) := by
                rw [Array.getD_eq_getD_getElem?, arrV_read _ _ (by omega)]
                rfl
              rw [e]
              exact ⟨rfl, trivial⟩)
            (g := F0 m pc ls (.int n :: .int dp :: .ref (m_ad s0.heap.size rom b) :: .int sp :: .ref (m_ad s0.heap.size rom a) :: S1.map (m_cv (m_ad s0.heap.size rom)))) rfl (by rw [hml]; exact hl.1.1) (rest := S1.map (m_cv (m_ad s0.heap.size rom))) rfl (by rw [hb]; exact hdg) (by rw [hF]; exact q8)
            (by show 2 * 0 + _ + _ ≤ _; rw [m_cv_words, hLo]; have : nativeFrameWords "java/lang/System" "arraycopy" 5 = 7 := by decide
                omega)
          have e2 : copied (arrV (cA 0) n0 (fun j => .int (f j))) (arrV (cA 0) n1 (fun j => .int (g j))) sp dp n = arrV (cA 0) n1 (fun j => .int (va_cpy f g sp.toNatClampNeg dp.toNatClampNeg n.toNatClampNeg j)) := va_copied (fun z => .int z) (cA 0) (cA 0) f g q5
          rw [e2] at X' step
          have hlb : m_ad s0.heap.size rom b < H.size := (Array.getElem?_eq_some_iff.mp hrb2).1
          have fin := k (H.setIfInBounds (m_ad s0.heap.size rom b) (arrV (cA 0) n1 (fun j => .int (va_cpy f g sp.toNatClampNeg dp.toNatClampNeg n.toNatClampNeg j)))) (locs ++ ((arrV (cA 0) n0 (fun j => .int (f j))).stretch sp.toNatClampNeg n.toNatClampNeg).zipIdx.map fun q => ⟨m_ad s0.heap.size rom b, dp.toNatClampNeg + q.2⟩) ls cells slots
            (m_rel_set hR hb1 ⟨hrb1, by rw [← m_ad_lt (rom := rom) hb2]; simp [Array.getElem?_setIfInBounds, hlb]⟩ (by simp) (fun q hq => by rw [m_ad_lt hb2]; simp [Array.getElem?_setIfInBounds, Ne.symm hq])) hl
            (fun q hq => by
              rcases List.mem_append.mp hq with hq | hq
              · exact hlo q hq
              · obtain ⟨z, -, hz⟩ := List.mem_map.mp hq
                have e5 : q.base = m_ad s0.heap.size rom b := by rw [← hz]
                rw [e5, m_ad_lt hb2]; omega) rfl rfl
          obtain ⟨t, a1, b1⟩ := fin _ (by rw [← hT]; rfl) X'
          exact ⟨t, step t a1, b1⟩
        · rw [m_if_f hn] at h2; cases h2
      · cases h2
    · cases h2
  · cases h2
end SIM
end
section
/-! what was there before, moved to a later state -/
theorem m_laysStatic_moved {C n d : String} {args args' : Array Value} {s0 s : State} (hal : s0.vm.Alike s.vm) (ho : ∀ q, q < s0.heap.size → s.heap[q]? = s0.heap[q]?) (h : (Cond.laysStatic C n d).before args s0 = true) : (Cond.laysStatic C n d).before args' s = true := by
  obtain ⟨c, k, i, fd, a, cell, hc, hf, hst, hsta, hcell, hiss, hcls, hlt, hty⟩ := Cond.laysStatic_spec h
  obtain ⟨k', hf', he⟩ := State.fieldFound?_setVm hal hf
  have hf2 : s.fieldFound? C n d = some (c, k', i, fd) := hf'
  have hc2 : s.vm.findClass C = some c := by rw [hal.findClass]; exact hc
  have e1 : k'.statics = k.statics := by rw [he]
  have e2 : k'.staticTypes = k.staticTypes := by rw [he]
  have hcell2 : s.heap[a]? = some cell := by rw [ho a (Array.getElem?_eq_some_iff.mp hcell).1]; exact hcell
  simp only [Cond.before, Cond.holds, Cond.value, hc2, hf2, e1, hsta, Option.bind_some, hcell2, Option.map_some, hst, hiss, hcls, e2, hty]
  simp [hlt]
theorem m_static_moved {C n d : String} {args args' : Array Value} {s0 s : State} {v : Value} (hal : s0.vm.Alike s.vm) (ho : ∀ q, q < s0.heap.size → s.heap[q]? = s0.heap[q]?) (hl : (Cond.laysStatic C n d).before args s0 = true) (h : (Term.static C n d).eval args s0 none [] s0 = some v) : (Term.static C n d).eval args' s none [] s = some v := by
  obtain ⟨c, k, i, fd, a, cell, hc, hf, hst, hsta, hcell, hiss, hcls, hlt, hty⟩ := Cond.laysStatic_spec hl
  obtain ⟨k', hf', he⟩ := State.fieldFound?_setVm hal hf
  have hf2 : s.fieldFound? C n d = some (c, k', i, fd) := hf'
  have e1 : k'.statics = k.statics := by rw [he]
  have hcell2 : s.heap[a]? = some cell := by rw [ho a (Array.getElem?_eq_some_iff.mp hcell).1]; exact hcell
  have hv : cell.slots[fd.slot]? = some v := by
    simpa [Term.eval, State.fieldNamed?, hf, hst, hsta, hcell, hiss] using h
  simp [Term.eval, State.fieldNamed?, hf2, hst, e1, hsta, hcell2, hiss, hv]
section SIM
variable {p : Program} {l : Launch} {e : Env} {R : Room} {s0 s : State} {m : MethodId} {args : Array Value} {below : List Frame} {meth : Method} {c : Code} {H : Heap} {locs : List Loc} {cells slots : Nat} {Q : State → Prop} {ls : Array Slot}
variable {rom : Nat → Nat} {romC : Nat → mC} {D : va_G} {cA eC : Nat → ClassId} {y pc len tgt pc' : Nat} {i : Instr} {L L' : mL} {S S' : List Value} {h h' : mH}
/-- the two static arrays: the names -/
def m_gn (j : Nat) : String := if j = 0 then "STEP_X" else "STEP_Y"
theorem m_gs_ok {o ix j : Nat} (h : m_gs o ix = some j) : o = 4 ∧ ((ix = 59 ∧ j = 0) ∨ (ix = 62 ∧ j = 1)) := by
  have hm := m_lookup_mem h
  match o, hm with
  | 0, hm => simp [m_gss] at hm
  | 1, hm => simp [m_gss] at hm
  | 2, hm => simp [m_gss] at hm
  | 3, hm => simp [m_gss] at hm
  | 4, hm => refine ⟨rfl, ?_⟩; simp [m_gss] at hm; omega
  | 5, hm => simp [m_gss] at hm
  | 6, hm => simp [m_gss] at hm
  | 7, hm => simp [m_gss] at hm
  | 8, hm => simp [m_gss] at hm
  | 9, hm => simp [m_gss] at hm
  | 10, hm => simp [m_gss] at hm
  | n + 11, hm => simp [m_gss] at hm
/-- what is known of the statics at the law's entry, for whatever later state -/
def m_Gs (s0 : State) (rom : Nat → Nat) : Prop := ∀ j, j < 2 → va_Z "EscapeCells" (m_gn j) "[I" (.ref (rom j)) (fun q => s0.heap.size ≤ q) s0 s0.heap
theorem m_simG {ix : Nat} (C : m_Fr p s0 s m args meth c y) (hG : m_Gs s0 rom) (hw : ∀ q ∈ [(59, "STEP_X"), (62, "STEP_Y")], (Cond.fieldLinkNest "EscapeCells$Storey" q.1 "EscapeCells" q.2 "[I" "EscapeCells").before args s = true) (hR : m_Rel s0 rom romC D cA eC h H)
    (h1 : m_at y pc = some (.getstatic ix, len, tgt)) (h2 : m_step y pc (.getstatic ix) len tgt L S h = some (pc', L', S', h'))
    (k : W p l e R s m args below meth c H locs cells slots Q (F0 m pc' ls (S'.map (m_cv (m_ad s0.heap.size rom))))) :
    W p l e R s m args below meth c H locs cells slots Q (F0 m pc ls (S.map (m_cv (m_ad s0.heap.size rom)))) ∧ h' = h ∧ L' = L := by
  obtain ⟨hx, hb, hml, hown, hW, hts, hnm, hrt, hlk, hex, hy⟩ := C
  obtain ⟨hdg, hck⟩ := m_at_ok hy h1
  simp only [m_ck2, Bool.and_eq_true, Bool.or_eq_true, decide_eq_true_eq] at hck
  obtain ⟨hlen, -, -⟩ := hck
  simp only [m_step] at h2
  split at h2
  · rename_i j ej
    simp only [Option.some.injEq, Prod.mk.injEq] at h2
    obtain ⟨rfl, rfl, rfl, rfl⟩ := h2
    refine ⟨?_, rfl, rfl⟩
    have e0 : len = 3 := by simp [m_len] at hlen; exact hlen.symm
    subst e0
    obtain ⟨ho, hj⟩ := m_gs_ok ej
    rw [ho] at hown
    have hj2 : j < 2 := by omega
    obtain ⟨cf, kf, fi, f, a, cell, z1, z2, z3, z4, z5, z6, z7, z8⟩ := va_Z.moved hW.alike (hG j hj2)
    have hca : H[a]? = some cell := by rw [hR.2.2.2.2.2 a (Nat.not_le.mp z8)]; exact z5
    have hlk2 : (Cond.fieldLinkNest "EscapeCells$Storey" ix "EscapeCells" (m_gn j) "[I" "EscapeCells").before args s = true := by
      rcases hj with ⟨rfl, rfl⟩ | ⟨rfl, rfl⟩
      · exact hw (59, "STEP_X") (by simp)
      · exact hw (62, "STEP_Y") (by simp)
    refine va_WgetsN hx hb (own := "EscapeCells$Storey") hown hlk2 z1 z2 z3 z4 hca (fun e => by rw [e] at z6; cases z6) z7 rfl hdg ?_
    have e9 : Value.ref (rom j) :: S.map (m_cv (m_ad s0.heap.size rom)) = (Value.ref (m_sB + j) :: S).map (m_cv (m_ad s0.heap.size rom)) := by
      rw [List.map_cons]
      show _ = Value.ref (m_ad _ _ _) :: _
      rw [m_ad_rom]
    show W p l e R s m args below meth c H locs cells slots Q (F0 m (pc + 3) ls (Value.ref (rom j) :: S.map (m_cv (m_ad s0.heap.size rom))))
    rw [e9]
    exact k
  · cases h2
end SIM
end
section
/-! an exception of the class is made and thrown: its constructor's walk by the library's laws, with the heap behind it -/
section SIMX
variable {p : Program} {l : Launch} {e : Env} {R : Room} {s : State} {m₀ : MethodId} {args : Array Value} {below : List Frame} {meth : Method} {c : Code} {W : State} {locs : List Loc} {cells slots : Nat}
set_option maxHeartbeats 4000000 in
theorem m_ctorThrow (X : Stand p l e R s m₀ args below meth c W locs cells slots) (hexec : p.tables.exec = Jvm.exec) (htr : e.platform.stackTraces = false) {own cls : String} {names : List String} {ic : Nat}
    (hown : s.vm.findClass own = some m₀.cls) (hcls : Jvm.Bundle.fit cls = true) (hnames : ∀ n ∈ names, Jvm.Bundle.fit n = true)
    (h : ∀ a ∈ Jvm.Bundle.ownAtoms own ic cls names, a.before args s = true)
    (hlocs : ∀ x ∈ locs, ∀ cell, s.heap[x.base]? = some cell → cell.vm.isStatics = false)
    {a : Addr} {cX : ClassId} {kX : Class} (hfoundX : s.vm.findClass cls = some cX) (hkX : s.vm.classes[cX]? = some kX) (hcell : W.heap[a]? = some (freshCell cX kX)) (hnew : s.heap.size ≤ a)
    {msg : Value} (hmsg : msg.isRef = true)
    {g : JFrame} (hg : g.method = m₀) (hsize : g.locals.size = c.maxLocals) (hlocked : g.locked = none) (hentered : g.entered = []) {rest : List Value} (hstack : g.stack = msg :: .ref a :: .ref a :: rest)
    (hd6 : decode c.code g.pc = .ok (.invokespecial ic, 3)) (hd9 : decode c.code (g.pc + 3) = .ok (.athrow, 1)) (hout : ∀ x ∈ c.exceptionTable.toList, covers x (g.pc + 3) = false)
    (hRframes : names.length + 3 < R.frames) (hRlocals : 2 * g.monitorRoom + ((Value.ref a :: rest).map fun v => v.category).sum + (13 * (names.length + 1) + 42) ≤ R.locals) (hlocks : meth.locks = false) :
    ∃ (U : State) (ce : Cell), Steps p.tables e below (W.setTop g) U ∧ U.status = .running ∧ Ended U below (.threw a) ∧ s.WarmedH U.vm ∧ s.sameButNew ({ U with vm := s.vm } : State) locs cells slots ∧
      U.heap = W.heap.setIfInBounds a ce ∧ ce.cls = cX ∧ ce.vm = .none := by
  have howns : e.platform.frameOwnsMonitors = true := by rw [X.admits.platform]
  have hfin : e.platform.finalization = false := by rw [X.admits.platform]
  have hpl : e.platform.magicAccessors = ({} : Platform).magicAccessors := by rw [X.admits.platform]
  have a' : ∀ x, x ∈ Jvm.Bundle.ownAtoms own ic cls names → x.holds args s none s [] = true := fun x hx => h x hx
  obtain ⟨T, Z0, L, -, Y⟩ := ThrowableC.of_atoms (args := args) howns hfin hpl (fun x hx => h x (by simp [Jvm.Bundle.ownAtoms, hx]))
  obtain ⟨Z, M, LZ, LM, hnZ⟩ := Init0T.ofS_atoms (args := args) hpl L Y (fun x hx => h x (by simp [Jvm.Bundle.ownAtoms, hx]))
  obtain ⟨P1, Ps, hlen, L1, hL, hP1m, hlink1, hlink⟩ := Jvm.Bundle.chainS (args := args) hpl hnZ names cls hcls hnames (fun x hx => h x (by simp [Jvm.Bundle.ownAtoms, hx]))
  have hfound : s.vm.findClass cls = some P1.m.cls := findClass_of_methodNamed hP1m
  cases Option.some.inj (hfoundX.symm.trans hfound)
  obtain ⟨c1, kX', hc1, hk, hord, -, -, hn6⟩ := Cond.instantiable_spec (a' (.instantiable cls 6) (by simp [Jvm.Bundle.ownAtoms]))
  cases Option.some.inj (hc1.symm.trans hfound)
  cases Option.some.inj (hkX.symm.trans hk)
  have hsel : ∀ (y : MethodName) (my : MethodId), s.methodNamed? y = some my → (y.cls ≠ "java/lang/invoke/MethodHandle" ∧ y.cls ≠ "java/lang/invoke/VarHandle") → (Cond.selects cls y y).holds args s none s [] = true → selectMethod e.platform s.vm P1.m.cls my = .method my := by
    intro y my hn hy hs
    obtain ⟨c2, r2, m2, q1, q2, q3, q4, -⟩ := Cond.selects_spec hs
    cases Option.some.inj (q1.symm.trans hfound)
    cases Option.some.inj (q2.symm.trans (State.methodFound?_of_named hn hy))
    cases Option.some.inj (q3.symm.trans hn)
    rw [Launch.admits_selectMethod X.admits]; exact q4
  have hsel0 : selectMethod e.platform s.vm P1.m.cls T.fill0 = .method T.fill0 := hsel _ _ Y.fill0 (by decide) (a' (.selects cls Jvm.Bundle.tFill0 Jvm.Bundle.tFill0) (by simp [Jvm.Bundle.ownAtoms]))
  have hselF : selectMethod e.platform s.vm P1.m.cls T.fill = .method T.fill := hsel _ _ Y.fill (by decide) (a' (.selects cls Jvm.Bundle.tFill Jvm.Bundle.tFill) (by simp [Jvm.Bundle.ownAtoms]))
  obtain ⟨cellS0, hcS0, hiss⟩ := Y.statics
  obtain ⟨u0, hu0⟩ := Cond.staticRefV Y.unassigned L.unassignedStatic L.statics hcS0 hiss (a' (.isRef (.static Jvm.Bundle.tN "UNASSIGNED_STACK" Jvm.Bundle.steD)) (by simp [Jvm.Bundle.ownAtoms]))
  obtain ⟨sen, hsen⟩ := Cond.staticRefV Y.sentinel L.sentinelStatic L.statics hcS0 hiss (a' (.isRef (.static Jvm.Bundle.tN "SUPPRESSED_SENTINEL" Jvm.Bundle.listD)) (by simp [Jvm.Bundle.ownAtoms]))
  obtain ⟨ci198, i198, fB, hk198, hg198, ha198, hsB, -, hnB, htB, hffB⟩ := Cond.ownField (t := .object "java/lang/Object") Y.found L.cls (by decide +kernel) (a' (.fieldLink Jvm.Bundle.tN 198 Jvm.Bundle.tN "backtrace" "Ljava/lang/Object;") (by simp [Jvm.Bundle.ownAtoms])) (a' (.lays Jvm.Bundle.tN Jvm.Bundle.tN "backtrace" "Ljava/lang/Object;") (by simp [Jvm.Bundle.ownAtoms])) e.platform hpl
  obtain ⟨cellS, hcS', heS, -, hkeep⟩ := X.same.2.2.2.2.2 T.aS cellS0 hcS0
  have hcellS : W.heap[T.aS]? = some cellS := hcS'
  have hout' : ∀ i, (⟨T.aS, i⟩ : Loc) ∉ locs := fun i hmem => by
    have := hlocs _ hmem cellS0 hcS0
    rw [hiss] at this; cases this
  have hknownS : cellS.vm ≠ .unknown := by
    rw [heS]; intro hu
    rw [show cellS0.vm = .unknown from hu] at hiss
    cases hiss
  have hneS : T.aS ≠ a := Nat.ne_of_lt (Nat.lt_of_lt_of_le (Array.getElem?_eq_some_iff.mp hcS0).1 hnew)
  obtain ⟨iM, hffM⟩ := Y.msg
  obtain ⟨tyC, dC, hdC, hdnC⟩ := Cond.laysAt hfound hk Y.cause (a' (.lays cls Jvm.Bundle.tN "cause" "Ljava/lang/Throwable;") (by simp [Jvm.Bundle.ownAtoms]))
  obtain ⟨tyS, dS, hdS, hdnS⟩ := Cond.laysAt hfound hk Y.stack (a' (.lays cls Jvm.Bundle.tN "stackTrace" Jvm.Bundle.steD) (by simp [Jvm.Bundle.ownAtoms]))
  obtain ⟨tyP, dP, hdP, hdnP⟩ := Cond.laysAt hfound hk Y.supp (a' (.lays cls Jvm.Bundle.tN "suppressedExceptions" Jvm.Bundle.listD) (by simp [Jvm.Bundle.ownAtoms]))
  obtain ⟨tyM, dM, hdM, hdnM⟩ := Cond.laysAt hfound hk hffM (a' (.lays cls Jvm.Bundle.tN "detailMessage" "Ljava/lang/String;") (by simp [Jvm.Bundle.ownAtoms]))
  obtain ⟨tyB, dB, hdB, hdnB⟩ := Cond.laysAt hfound hk hffB (a' (.lays cls Jvm.Bundle.tN "backtrace" "Ljava/lang/Object;") (by simp [Jvm.Bundle.ownAtoms]))
  have bC := Cond.laysApart hdB hdC hdnB hdnC (by rw [hnB, Y.causeName]; decide)
  have bS := Cond.laysApart hdB hdS hdnB hdnS (by rw [hnB, Y.stackName]; decide)
  have bP := Cond.laysApart hdB hdP hdnB hdnP (by rw [hnB, Y.suppName]; decide)
  have hskip : SkipFacts T e.platform s (fun u => u) u0 ((preparedCellV T.toThrowableT (freshCell P1.m.cls kX) a u0 sen).withEntry W.cur) :=
    ⟨{ ci198 := ci198, i198 := i198, fBack := fB }, ⟨hk198, hg198, ha198, hsB⟩, by
      have := fresh_default (c := P1.m.cls) tyB
      rw [htB] at this
      simpa [preparedCellV, Cell.setSlot, Cell.withEntry, Array.getElem?_setIfInBounds, bC, bS, bP, bC.symm, bS.symm, bP.symm, defaultValue] using this, fun _ _ => rfl⟩
  obtain ⟨tm, methC, cdC, kC, vm₁, hnC, -, -, -, -, -, -, -, hW₁, st1⟩ := Steps.initColdS (tb := p.tables) (e := e) (below := below) (s := s) (U := W) X.here hexec X.warmed hpl hown (t := Jvm.Bundle.initS cls) rfl rfl (Jvm.Bundle.fit_spec hcls).2
    (a' (.methodLink own ic (Jvm.Bundle.initS cls)) (by simp [Jvm.Bundle.ownAtoms])) (h (.instanceMethod (Jvm.Bundle.initS cls)) (by cases names <;> simp [Jvm.Bundle.ownAtoms, Jvm.Bundle.chainSAtoms, Jvm.Bundle.passSAtoms])) (bytes := Jvm.Bundle.six) (maxL := 2) (h (.code (Jvm.Bundle.initS cls) Jvm.Bundle.six 2 none) (by cases names <;> simp [Jvm.Bundle.ownAtoms, Jvm.Bundle.chainSAtoms, Jvm.Bundle.passSAtoms]))
    (f := g) hg (a := a) (msg := msg) (rest := .ref a :: rest) hstack hd6
  cases Option.some.inj (hnC.symm.trans hP1m)
  have X₁ := X.noted hW₁
  obtain ⟨vm₂, X₂, st2⟩ := X₁.ctorMessageOffV hexec (g := { g with stack := .ref a :: rest }) hg hsize T L Z LZ M LM (P1 :: Ps)
    (fun P hP => by rcases List.mem_cons.mp hP with rfl | hP; exact L1; exact hL P hP) ⟨hlink1, hlink⟩ (u0 := u0) (sen := sen) (self := a) hmsg (cell := freshCell P1.m.cls kX) (cellS := cellS)
    hcell (fun _ => by simp) (by simp) rfl rfl hsel0 hselF hcellS hneS hknownS (by rw [hkeep _ (hout' _)]; exact hu0) (by rw [hkeep _ (hout' _)]; exact hsen)
    (Takes.of_laid hk hord tyC (by rw [Y.causeType]; rfl)) (Takes.of_laid hk hord tyS (by rw [Y.stackType]; exact fits_refV_array _ u0)) (Takes.of_laid hk hord tyP (by rw [Y.suppType]; exact fits_refV_object _ sen))
    (Takes.of_laid hk hord tyM (by rw [Y.msgType]; exact fits_refV_object _ ⟨msg, hmsg⟩)) Y.objLocals hskip htr [] hd6
    (by simp only [List.length_cons, hlen]; omega) (by simp only [List.length_cons, hlen]; exact hRlocals)
  obtain ⟨hwalk, hrun, hended, hWU, hsame⟩ := (X₂.forget (fun y hy => by
    simp only [List.mem_cons, List.not_mem_nil, or_false] at hy
    rcases hy with rfl | rfl | rfl | rfl | rfl <;> exact hnew)).athrowLeaves hexec (g := { g with stack := .ref a :: rest, pc := g.pc + 3 }) hg hlocked hentered hout (a := a) (rest := rest) rfl hd9
  refine ⟨_, plainBareV T.toThrowableT (freshCell P1.m.cls kX) a u0 sen msg, st1 _ (fun acts => by rw [doInvoke_state]; exact st2 _ hwalk), hrun, hended, hWU, hsame, rfl, ?_, ?_⟩
  · rfl
  · rfl
end SIMX
end
section
/-- the outcome in the JVM -/
def m_out (ad : Nat → Nat) (o : mE) : Outcome := match o with
  | .inl v => .returned (v.map (m_cv ad))
  | .inr x => .threw (ad x)
/-- THE END of an invocation: what it answered or threw; the heap is the machine's; nothing that was there before the law is written; at most K cells of N slots are new -/
def m_Fin (s0 : State) (rom : Nat → Nat) (romC : Nat → mC) (D : va_G) (cA eC : Nat → ClassId) (s : State) (below : List Frame) (o : mE) (h' : mH) (K N : Nat) (t : State) : Prop :=
  t.status = .running ∧ Ended t below (m_out (m_ad s0.heap.size rom) o) ∧ s.WarmedH t.vm ∧ (∃ Lc : List Loc, s.sameButNew ({ t with vm := s.vm } : State) Lc K N ∧ ∀ q ∈ Lc, s0.heap.size ≤ q.base) ∧ m_Rel s0 rom romC D cA eC h' t.heap
def m_names : List String := ["java/lang/RuntimeException", "java/lang/Exception"]
section SIM
variable {p : Program} {l : Launch} {e : Env} {R : Room} {s0 s : State} {m : MethodId} {args : Array Value} {below : List Frame} {meth : Method} {c : Code} {H : Heap} {locs : List Loc} {cells slots : Nat} {ls : Array Slot}
variable {rom : Nat → Nat} {romC : Nat → mC} {D : va_G} {cA eC : Nat → ClassId} {y pc len tgt pc' : Nat} {i : Instr} {L L' : mL} {S S' : List Value} {h h' h0 : mH}
theorem m_px_ok {o ix ci : Nat} (h : m_px o ix = some ci) : o = 5 ∧ ((ix = 72 ∧ ci = 7) ∨ (ix = 83 ∧ ci = 8)) := by
  unfold m_px at h
  split at h
  · cases h; exact ⟨rfl, Or.inl ⟨rfl, rfl⟩⟩
  · cases h; exact ⟨rfl, Or.inr ⟨rfl, rfl⟩⟩
  · cases h
set_option maxRecDepth 100000 in
theorem m_exin : ∀ w ∈ [Cond.initialized (m_R 7), Cond.initialized (m_R 8)], w ∈ m_tb := by decide +kernel
theorem m_hd_hw : ∀ y, y < 119 → m_hd y = [] → m_hw y = [] := by decide +kernel
theorem m_rel_plain (R : m_Rel s0 rom romC D cA eC h H) {q : Nat} (hq : s0.heap.size ≤ q) {cell : Cell} (hc : H[q]? = some cell) : cell.vm.isStatics = false := by
  obtain ⟨r1, r2, r3, -⟩ := R
  have hlt : q < H.size := (Array.getElem?_eq_some_iff.mp hc).1
  obtain ⟨k, rfl⟩ := Nat.exists_eq_add_of_le hq
  have hk := r3 k (by omega)
  revert hk
  rcases h.1 k with ⟨t, n, f⟩ | ⟨n, f⟩ | ⟨n, f⟩ | ⟨ci, fs⟩
  · intro hk; rw [hk.2] at hc; cases hc; rfl
  · intro hk; rw [hk.2] at hc; cases hc; rfl
  · intro hk; rw [hk.2] at hc; cases hc; rfl
  · rintro (⟨r, -, -, cell', z1, -, z3, -⟩ | ⟨-, -, cell', z1, -, z3⟩)
    · rw [z1] at hc; cases hc; rw [z3]; rfl
    · rw [z1] at hc; cases hc; rw [z3]; rfl
set_option maxHeartbeats 4000000 in
theorem m_simX {x : Nat} (C : m_Fr p s0 s m args meth c y) (htr : l.admits e → e.platform.stackTraces = false) (hent : m_Rel s0 rom romC D cA eC h0 s.heap) (hh0 : h0.2.1 ≤ h.2.1)
    (hth : ∀ ci ic, ((ic = 72 ∧ ci = 7) ∨ (ic = 83 ∧ ci = 8)) → ∀ a ∈ Jvm.Bundle.ownAtoms "EscapeCells" ic (m_R ci) m_names, a.before args s = true) (hec : ∀ ci, (ci = 7 ∨ ci = 8) → s.vm.findClass (m_R ci) = some (eC ci))
    (hstr : ∀ k v, m_lc 5 k = some (.ref v) → ∃ (tx : String) (q : Nat), vk_R "EscapeCells" k tx q s)
    (hR : m_Rel s0 rom romC D cA eC h H) (hl : m_Loc (m_ad s0.heap.size rom) ls (m_ml y) L) (hF : R.frames = m_nf y) (hLo : R.locals = m_nw y)
    (h1 : m_at y pc = some (i, len, tgt)) (h2 : m_thr y pc i S h = some (x, h')) (hC : cells + 1 ≤ R.cells) (hSl : slots + 6 ≤ R.slots) (hB : h'.2.1 ≤ 2000000) (hlo : ∀ q ∈ locs, s0.heap.size ≤ q.base) :
    W p l e R s m args below meth c H locs cells slots (m_Fin s0 rom romC D cA eC s below (.inr x) h' (cells + 1) (slots + 6)) (F0 m pc ls (S.map (m_cv (m_ad s0.heap.size rom)))) := by
  obtain ⟨hx, hb, hml, hown, hW, hts, hnm, hrt, hlk, hex, hy⟩ := C
  obtain ⟨hdg, hck⟩ := m_at_ok hy h1
  simp only [m_ck2, Bool.and_eq_true, Bool.or_eq_true, decide_eq_true_eq] at hck
  obtain ⟨hlen, -, -⟩ := hck
  unfold m_thr at h2
  split at h2
  · rename_i ix
    split at h2
    · rename_i ci e1
      split at h2
      · rename_i e2
        simp only [Option.some.injEq, Prod.mk.injEq] at h2
        obtain ⟨rfl, rfl⟩ := h2
        have e0 : len = 3 := by simp [m_len] at hlen; exact hlen.symm
        subst e0
        simp only [Bool.and_eq_true, Nat.ble_eq, Nat.blt_eq, List.isEmpty_iff] at e2
        obtain ⟨⟨c7, c9⟩, hseq, hhd, hnf, hnw⟩ := e2
        unfold m_seq at hseq
        split at hseq
        · rename_i t1 t2 kx t3 t4 jx t5 t6 t7 t8 a3 a4 a6 a9
          split at hseq
          · rename_i v cj b1 b2
            have ecj : ci = cj := Nat.eq_of_beq_eq_true hseq
            subst ecj
            obtain ⟨ho, hpx⟩ := m_px_ok b2
            rw [ho] at hown b1 e1
            have hci : ci = 7 ∨ ci = 8 := by omega
            obtain ⟨d3, k3⟩ := m_at_ok hy a3
            obtain ⟨d4, k4⟩ := m_at_ok hy a4
            obtain ⟨d6, k6⟩ := m_at_ok hy a6
            obtain ⟨d9, k9⟩ := m_at_ok hy a9
            simp only [m_ck2, Bool.and_eq_true, Bool.or_eq_true, decide_eq_true_eq] at k3 k4 k6 k9
            have l3 : t1 = 1 := by have q := k3.1; simp [m_len] at q; exact q.symm
            have l4 : t3 = 2 := by have q := k4.1; simp [m_len] at q; exact q.symm
            have l6 : t5 = 3 := by have q := k6.1; simp [m_len] at q; exact q.symm
            have l9 : t7 = 1 := by have q := k9.1; simp [m_len] at q; exact q.symm
            subst l3; subst l4; subst l6; subst l9
            obtain ⟨n1, n2⟩ := m_ne_ok e1
            have hat := hth ci jx hpx
            have hz : H.size = s0.heap.size + h.2.1 := hR.1
            have hz0 : s.heap.size = s0.heap.size + h0.2.1 := hent.1
            have hs : m_sB = 1000000000 := rfl
            have hR2 : h.2.1 ≤ 2000000 := hR.2.1
            have hB' : h.2.1 + 1 ≤ 2000000 := hB
            obtain ⟨tx, q, hq⟩ := hstr kx v b1
            refine W.newcK hx hb (own := m_R 5) hown (hts _ n1) (hat (.instantiable (m_R ci) 6) (by simp [Jvm.Bundle.ownAtoms])) (hts _ (by rcases hci with rfl | rfl <;> exact m_exin _ (by simp))) rfl hdg hC hSl (hec ci hci) rfl fun H' kC g1 g2 g3 g4 => ?_
            refine lv_dup hx hb d3 rfl ?_
            refine va_ldcS hx hb hown hq d4 ?_
            intro T hT Xs
            obtain ⟨U, ce, w1, w2, w3, w4, w5, w6, w7, w8⟩ := m_ctorThrow Xs hx (htr Xs.admits) (own := "EscapeCells") (names := m_names) (cls := m_R ci) (ic := jx) hown (by rcases hci with rfl | rfl <;> decide +kernel) (by decide +kernel) hat
              (fun z hz cell hcell => m_rel_plain hent (hlo z hz) hcell) (a := H.size) (hec ci hci) g1 (by rw [hT]; exact g2) (by omega) (msg := .ref q) rfl
              (g := F0 m (pc + 3 + 1 + 2) ls (.ref q :: .ref H.size :: .ref H.size :: S.map (m_cv (m_ad s0.heap.size rom)))) rfl (by rw [hml]; exact hl.1.1) rfl rfl rfl (by rw [hb]; exact d6) (by rw [hb]; exact d9)
              (fun z hz => by
                have hq2 : m_hw y = [] := by
                  have hh := m_hd_hw y hy hhd
                  exact hh
                rw [hq2] at hex
                have : c.exceptionTable.toList = [] := by simpa using hex
                rw [this] at hz; cases hz)
              (by rw [hF]; show 2 + 3 < _; omega)
              (by
                show 2 * 0 + (((Value.ref H.size) :: S.map (m_cv (m_ad s0.heap.size rom))).map fun v => v.category).sum + (13 * (2 + 1) + 42) ≤ R.locals
                rw [List.map_cons, List.sum_cons, m_cv_words, hLo]
                show 2 * 0 + (1 + m_words S) + (13 * (2 + 1) + 42) ≤ m_nw y
                omega) hlk
            refine ⟨U, w1, w2, ?_, w4, ⟨locs, w5, hlo⟩, ?_⟩
            · show Ended U below (.threw (m_ad s0.heap.size rom h.2.1))
              rw [m_ad_lt (by omega), ← hz]; exact w3
            · have hUs : U.heap.size = H.size + 1 := by rw [w6, Array.size_setIfInBounds, hT, g3]
              have hlt : H.size < T.heap.size := by rw [hT, g3]; omega
              refine m_rel_push hR hB' ?_ hUs (fun z hz => ?_)
              · refine Or.inr ⟨hci, rfl, ce, ?_, w7, w8⟩
                rw [← hz, w6]; simp [Array.getElem?_setIfInBounds, hlt]
              · rw [w6, Array.getElem?_setIfInBounds_ne (by omega), hT]; exact g4 z hz
          · cases hseq
        · cases hseq
      · cases h2
    · cases h2
  · cases h2
end SIM
end
section
/-! the search for a handler, its classes resolved or not -/
section MCH
variable {e : Env} {f : JFrame} {a : Addr} {s₀ : State}
theorem m_find1 {s : State} {x : ExceptionTableEntry} {t : List ExceptionTableEntry} {c : ClassId} {cell : Cell} {vm' : Vm} {Q : Handler → Pre} {E : CtlPost} {d : Bool} {acts : List Action} (hx : covers x f.pc = true) (h0 : x.catchType ≠ 0)
    (hg : (resolveClass f.method.cls x.catchType).Gives e.toSetting s.vm (.ok c) vm') (hsz : vm'.classes.size ≤ s.vm.classes.size) (hcell : s.heap[a]? = some cell) (hobj : ∀ k, cell.vm ≠ .statics k)
    (hk : ∃ k, vm'.classes[cell.cls]? = some k) (hc : ∃ k, vm'.classes[c]? = some k) :
    wp (findHandler.go f a (x :: t)) Q E e d acts s ↔ if vm'.assignable cell.cls c = true then Q (.found x.handlerPc) d acts (s.setVm vm') else wp (findHandler.go f a t) Q E e d acts (s.setVm vm') := by
  simp only [covers] at hx
  obtain ⟨ms', hms⟩ := hg []
  have hans : (VmOp.resolveClass f.method.cls x.catchType).answer e s.vm = .ok c := by
    simp [VmOp.answer, VmOp.run, hms]
  have htab : (VmOp.resolveClass f.method.cls x.catchType).tables e s.vm = vm' := by
    simp [VmOp.tables, VmOp.run, hms]
  cases hfit : vm'.assignable cell.cls c <;>
    simp [findHandler.go, hx, h0, W.vmOp_same, hans, htab, hsz, hcell, hobj, hk, hc, hfit, VmOp.dirties, VmOp.acts]
/-- what the search finds: the first row that covers the place and whose class takes the object -/
def m_hit (pc : Nat) (ok : Nat → Bool) : List ExceptionTableEntry → Handler
  | [] => .none
  | x :: t => if covers x pc && ok x.catchType then .found x.handlerPc else m_hit pc ok t
theorem m_search {cell : Cell} {ok : Nat → Bool} : ∀ (tl : List ExceptionTableEntry) (s : State), s₀.WarmedH s.vm → s.heap[a]? = some cell → (∀ k, cell.vm ≠ .statics k) → (∃ k, s₀.vm.classes[cell.cls]? = some k) →
    (∀ x ∈ tl, x.catchType ≠ 0 ∧ ∃ c, s₀.vm.ClassLinks e.platform f.method.cls x.catchType c ∧ (∃ k, s₀.vm.classes[c]? = some k) ∧ s₀.vm.assignable cell.cls c = ok x.catchType) →
    ∃ vm', s₀.WarmedH vm' ∧ ∀ (Q : Handler → Pre) (E : CtlPost) (d : Bool) (acts : List Action), wp (findHandler.go f a tl) Q E e d acts s ↔ Q (m_hit f.pc ok tl) d acts (s.setVm vm') := by
  intro tl
  induction tl with
  | nil => exact fun s hW _ _ _ _ => ⟨s.vm, hW, fun Q E d acts => W.findHandler_go_nil⟩
  | cons x t ih =>
    intro s hW hcell hobj hk hall
    obtain ⟨h0, c, hl, ⟨kc, hkc⟩, hasg⟩ := hall x List.mem_cons_self
    cases hcov : covers x f.pc with
    | false =>
      obtain ⟨vm', w1, w2⟩ := ih s hW hcell hobj hk (fun y hy => hall y (List.mem_cons_of_mem _ hy))
      refine ⟨vm', w1, fun Q E d acts => ?_⟩
      rw [W.findHandler_go_skip hcov, w2]
      simp only [m_hit, hcov, Bool.false_and, Bool.false_eq_true, if_false]
    | true =>
      obtain ⟨hg, hW1, -⟩ := State.classEntry (e := e) hW hl
      generalize s.vm.noted f.method.cls x.catchType (.cls c) = vm1 at hg hW1
      have hal := hW1.alike
      have hal2 : s.vm.Alike vm1 := hW.alike.symm.trans hal
      have hsz : vm1.classes.size ≤ s.vm.classes.size := Nat.le_of_eq (by first | exact hal2.1.symm | exact hal2.1 | exact hal2.2.1 | exact hal2.2.1.symm)
      obtain ⟨k1, hk1⟩ := hk
      obtain ⟨k1', hk1', -⟩ := hal.2.2 _ _ hk1
      obtain ⟨kc', hkc', -⟩ := hal.2.2 _ _ hkc
      have hasg' : vm1.assignable cell.cls c = ok x.catchType := by
        rw [← hasg]
        first | exact hal.assignable _ _ | exact (hal.assignable _ _).symm | simp [hal.assignable]
      cases hok : ok x.catchType with
      | true =>
        refine ⟨vm1, hW1, fun Q E d acts => ?_⟩
        rw [m_find1 hcov h0 hg hsz hcell hobj ⟨_, hk1'⟩ ⟨_, hkc'⟩, hasg', hok]
        simp only [m_hit, hcov, hok, Bool.and_self, if_true]
      | false =>
        obtain ⟨vm', w1, w2⟩ := ih (s.setVm vm1) hW1 hcell hobj ⟨_, hk1⟩ (fun y hy => hall y (List.mem_cons_of_mem _ hy))
        refine ⟨vm', w1, fun Q E d acts => ?_⟩
        rw [m_find1 hcov h0 hg hsz hcell hobj ⟨_, hk1'⟩ ⟨_, hkc'⟩, hasg', hok]
        simp only [Bool.false_eq_true, if_false]
        rw [w2]
        simp only [m_hit, hcov, hok, Bool.and_false, Bool.false_eq_true, if_false]
        rfl
/-- the search as a whole -/
def m_Finds (e : Env) (s : State) (f : JFrame) (a : Addr) (h : Handler) (vm' : Vm) : Prop :=
  ∀ (Q : Handler → Pre) (E : CtlPost) (d : Bool) (acts : List Action), wp (findHandler f a) Q E e d acts s ↔ Q h d acts (s.setVm vm')
theorem m_step_catch {s : State} {r : List Frame} {pc : Nat} {vm' : Vm} (hfind : m_Finds e s f a (.found pc) vm') :
    (stepThrowing e s a (.java f :: r)).Is ((s.setVm vm').setFrames (.java { f with pc := pc, stack := [.ref a] } :: r)) [] := by
  simp only [stepThrowing, searchFrame, vmDo]
  generalize hr : Sem.go _ e false [] s = res
  obtain ⟨as, rfl, ha⟩ := Sem.eq_ok_of hr (a := Handler.found pc) (s' := s.setVm vm') (acts' := []) (by simp [hfind _ _ _ _])
  exact ⟨rfl, ha⟩
theorem m_caught {tb : Tables} {s target : State} {g : JFrame} {c : Code} {below : List Frame} (h : At s g.method c below) {pc : Nat} {vm' : Vm} (hfind : m_Finds e ((s.setTop g).pushFrame (.throwing a)) g a (.found pc) vm')
    (hrest : Steps tb e below ((s.setVm vm').setTop { g with pc := pc, stack := [.ref a] }) target) : Steps tb e below ((s.setTop g).pushFrame (.throwing a)) target := by
  obtain ⟨hgo, hw⟩ := h.throwing a
  refine Steps.head hgo hw ?_
  rw [stepThread_throwing (frames_entered h.top _), (m_step_catch (s := (s.setTop g).pushFrame (.throwing a)) hfind).1]
  obtain ⟨g₀, hg⟩ := Option.isSome_iff_exists.mp h.top
  obtain ⟨r, hr⟩ := State.topJava?_eq_some.mp hg
  have hr' : (s.setVm vm').frames = .java g₀ :: r := hr
  rw [State.setTop_of_frames _ hr'] at hrest
  rw [State.setTop_of_frames _ hr, State.pushFrame]
  have hcur := State.cur_lt_of_frames hr
  rw [State.setFrames_setFrames] 
  have e1 : ((s.setFrames (.throwing a :: (s.setFrames (.java g :: r)).frames)).setVm vm').setFrames (.java { g with pc := pc, stack := [.ref a] } :: r) = (s.setVm vm').setFrames (.java { g with pc := pc, stack := [.ref a] } :: r) := by
    show ((s.setVm vm').setFrames _).setFrames _ = _
    rw [State.setFrames_setFrames]
  have e2 : s.frames.tail = r := by rw [hr]; rfl
  rw [e2]
  rw [e1]
  exact hrest
end MCH
end
section
/-- which kind of call calls which kind of method -/
def m_ck3 (y : Nat) (i : Instr) : Bool := match i with
  | .invokevirtual ix => (match m_cl (m_o y) ix with
    | some y' => !m_st y' && !m_ini y'
    | none => true)
  | .invokespecial ix => (match m_cl (m_o y) ix with
    | some y' => !m_st y' && (m_ini y' && ((m_rt y').isNone && (m_hw y').isEmpty))
    | none => true)
  | .invokestatic ix => (match m_cl (m_o y) ix with
    | some y' => m_st y'
    | none => true)
  | _ => true
theorem m_k0 : (mc0).all (fun c => c.2.all (fun q => m_ck3 0 q.2.1)) = true := by decide +kernel
theorem m_k1 : (mc1).all (fun c => c.2.all (fun q => m_ck3 1 q.2.1)) = true := by decide +kernel
theorem m_k2 : (mc2).all (fun c => c.2.all (fun q => m_ck3 2 q.2.1)) = true := by decide +kernel
theorem m_k3 : (mc3).all (fun c => c.2.all (fun q => m_ck3 3 q.2.1)) = true := by decide +kernel
theorem m_k4 : (mc4).all (fun c => c.2.all (fun q => m_ck3 4 q.2.1)) = true := by decide +kernel
theorem m_k5 : (mc5).all (fun c => c.2.all (fun q => m_ck3 5 q.2.1)) = true := by decide +kernel
theorem m_k6 : (mc6).all (fun c => c.2.all (fun q => m_ck3 6 q.2.1)) = true := by decide +kernel
theorem m_k7 : (mc7).all (fun c => c.2.all (fun q => m_ck3 7 q.2.1)) = true := by decide +kernel
theorem m_k8 : (mc8).all (fun c => c.2.all (fun q => m_ck3 8 q.2.1)) = true := by decide +kernel
theorem m_k9 : (mc9).all (fun c => c.2.all (fun q => m_ck3 9 q.2.1)) = true := by decide +kernel
theorem m_k10 : (mc10).all (fun c => c.2.all (fun q => m_ck3 10 q.2.1)) = true := by decide +kernel
theorem m_k11 : (mc11).all (fun c => c.2.all (fun q => m_ck3 11 q.2.1)) = true := by decide +kernel
theorem m_k12 : (mc12).all (fun c => c.2.all (fun q => m_ck3 12 q.2.1)) = true := by decide +kernel
theorem m_k13 : (mc13).all (fun c => c.2.all (fun q => m_ck3 13 q.2.1)) = true := by decide +kernel
theorem m_k14 : (mc14).all (fun c => c.2.all (fun q => m_ck3 14 q.2.1)) = true := by decide +kernel
theorem m_k15 : (mc15).all (fun c => c.2.all (fun q => m_ck3 15 q.2.1)) = true := by decide +kernel
theorem m_k16 : (mc16).all (fun c => c.2.all (fun q => m_ck3 16 q.2.1)) = true := by decide +kernel
theorem m_k17 : (mc17).all (fun c => c.2.all (fun q => m_ck3 17 q.2.1)) = true := by decide +kernel
theorem m_k18 : (mc18).all (fun c => c.2.all (fun q => m_ck3 18 q.2.1)) = true := by decide +kernel
theorem m_k19 : (mc19).all (fun c => c.2.all (fun q => m_ck3 19 q.2.1)) = true := by decide +kernel
theorem m_k20 : (mc20).all (fun c => c.2.all (fun q => m_ck3 20 q.2.1)) = true := by decide +kernel
theorem m_k21 : (mc21).all (fun c => c.2.all (fun q => m_ck3 21 q.2.1)) = true := by decide +kernel
theorem m_k22 : (mc22).all (fun c => c.2.all (fun q => m_ck3 22 q.2.1)) = true := by decide +kernel
theorem m_k23 : (mc23).all (fun c => c.2.all (fun q => m_ck3 23 q.2.1)) = true := by decide +kernel
theorem m_k24 : (mc24).all (fun c => c.2.all (fun q => m_ck3 24 q.2.1)) = true := by decide +kernel
theorem m_k25 : (mc25).all (fun c => c.2.all (fun q => m_ck3 25 q.2.1)) = true := by decide +kernel
theorem m_k26 : (mc26).all (fun c => c.2.all (fun q => m_ck3 26 q.2.1)) = true := by decide +kernel
theorem m_k27 : (mc27).all (fun c => c.2.all (fun q => m_ck3 27 q.2.1)) = true := by decide +kernel
theorem m_k28 : (mc28).all (fun c => c.2.all (fun q => m_ck3 28 q.2.1)) = true := by decide +kernel
theorem m_k29 : (mc29).all (fun c => c.2.all (fun q => m_ck3 29 q.2.1)) = true := by decide +kernel
theorem m_k30 : (mc30).all (fun c => c.2.all (fun q => m_ck3 30 q.2.1)) = true := by decide +kernel
theorem m_k31 : (mc31).all (fun c => c.2.all (fun q => m_ck3 31 q.2.1)) = true := by decide +kernel
theorem m_k32 : (mc32).all (fun c => c.2.all (fun q => m_ck3 32 q.2.1)) = true := by decide +kernel
theorem m_k33 : (mc33).all (fun c => c.2.all (fun q => m_ck3 33 q.2.1)) = true := by decide +kernel
theorem m_k34 : (mc34).all (fun c => c.2.all (fun q => m_ck3 34 q.2.1)) = true := by decide +kernel
theorem m_k35 : (mc35).all (fun c => c.2.all (fun q => m_ck3 35 q.2.1)) = true := by decide +kernel
theorem m_k36 : (mc36).all (fun c => c.2.all (fun q => m_ck3 36 q.2.1)) = true := by decide +kernel
theorem m_k37 : (mc37).all (fun c => c.2.all (fun q => m_ck3 37 q.2.1)) = true := by decide +kernel
theorem m_k38 : (mc38).all (fun c => c.2.all (fun q => m_ck3 38 q.2.1)) = true := by decide +kernel
theorem m_k39 : (mc39).all (fun c => c.2.all (fun q => m_ck3 39 q.2.1)) = true := by decide +kernel
theorem m_k40 : (mc40).all (fun c => c.2.all (fun q => m_ck3 40 q.2.1)) = true := by decide +kernel
theorem m_k41 : (mc41).all (fun c => c.2.all (fun q => m_ck3 41 q.2.1)) = true := by decide +kernel
theorem m_k42 : (mc42).all (fun c => c.2.all (fun q => m_ck3 42 q.2.1)) = true := by decide +kernel
theorem m_k43 : (mc43).all (fun c => c.2.all (fun q => m_ck3 43 q.2.1)) = true := by decide +kernel
theorem m_k44 : (mc44).all (fun c => c.2.all (fun q => m_ck3 44 q.2.1)) = true := by decide +kernel
theorem m_k45 : (mc45).all (fun c => c.2.all (fun q => m_ck3 45 q.2.1)) = true := by decide +kernel
theorem m_k46 : (mc46).all (fun c => c.2.all (fun q => m_ck3 46 q.2.1)) = true := by decide +kernel
theorem m_k47 : (mc47).all (fun c => c.2.all (fun q => m_ck3 47 q.2.1)) = true := by decide +kernel
theorem m_k48 : (mc48).all (fun c => c.2.all (fun q => m_ck3 48 q.2.1)) = true := by decide +kernel
theorem m_k49 : (mc49).all (fun c => c.2.all (fun q => m_ck3 49 q.2.1)) = true := by decide +kernel
theorem m_k50 : (mc50).all (fun c => c.2.all (fun q => m_ck3 50 q.2.1)) = true := by decide +kernel
theorem m_k51 : (mc51).all (fun c => c.2.all (fun q => m_ck3 51 q.2.1)) = true := by decide +kernel
theorem m_k52 : (mc52).all (fun c => c.2.all (fun q => m_ck3 52 q.2.1)) = true := by decide +kernel
theorem m_k53 : (mc53).all (fun c => c.2.all (fun q => m_ck3 53 q.2.1)) = true := by decide +kernel
theorem m_k54 : (mc54).all (fun c => c.2.all (fun q => m_ck3 54 q.2.1)) = true := by decide +kernel
theorem m_k55 : (mc55).all (fun c => c.2.all (fun q => m_ck3 55 q.2.1)) = true := by decide +kernel
theorem m_k56 : (mc56).all (fun c => c.2.all (fun q => m_ck3 56 q.2.1)) = true := by decide +kernel
theorem m_k57 : (mc57).all (fun c => c.2.all (fun q => m_ck3 57 q.2.1)) = true := by decide +kernel
theorem m_k58 : (mc58).all (fun c => c.2.all (fun q => m_ck3 58 q.2.1)) = true := by decide +kernel
theorem m_k59 : (mc59).all (fun c => c.2.all (fun q => m_ck3 59 q.2.1)) = true := by decide +kernel
theorem m_k60 : (mc60).all (fun c => c.2.all (fun q => m_ck3 60 q.2.1)) = true := by decide +kernel
theorem m_k61 : (mc61).all (fun c => c.2.all (fun q => m_ck3 61 q.2.1)) = true := by decide +kernel
theorem m_k62 : (mc62).all (fun c => c.2.all (fun q => m_ck3 62 q.2.1)) = true := by decide +kernel
theorem m_k63 : (mc63).all (fun c => c.2.all (fun q => m_ck3 63 q.2.1)) = true := by decide +kernel
theorem m_k64 : (mc64).all (fun c => c.2.all (fun q => m_ck3 64 q.2.1)) = true := by decide +kernel
theorem m_k65 : (mc65).all (fun c => c.2.all (fun q => m_ck3 65 q.2.1)) = true := by decide +kernel
theorem m_k66 : (mc66).all (fun c => c.2.all (fun q => m_ck3 66 q.2.1)) = true := by decide +kernel
theorem m_k67 : (mc67).all (fun c => c.2.all (fun q => m_ck3 67 q.2.1)) = true := by decide +kernel
theorem m_k68 : (mc68).all (fun c => c.2.all (fun q => m_ck3 68 q.2.1)) = true := by decide +kernel
theorem m_k69 : (mc69).all (fun c => c.2.all (fun q => m_ck3 69 q.2.1)) = true := by decide +kernel
theorem m_k70 : (mc70).all (fun c => c.2.all (fun q => m_ck3 70 q.2.1)) = true := by decide +kernel
theorem m_k71 : (mc71).all (fun c => c.2.all (fun q => m_ck3 71 q.2.1)) = true := by decide +kernel
theorem m_k72 : (mc72).all (fun c => c.2.all (fun q => m_ck3 72 q.2.1)) = true := by decide +kernel
theorem m_k73 : (mc73).all (fun c => c.2.all (fun q => m_ck3 73 q.2.1)) = true := by decide +kernel
theorem m_k74 : (mc74).all (fun c => c.2.all (fun q => m_ck3 74 q.2.1)) = true := by decide +kernel
theorem m_k75 : (mc75).all (fun c => c.2.all (fun q => m_ck3 75 q.2.1)) = true := by decide +kernel
theorem m_k76 : (mc76).all (fun c => c.2.all (fun q => m_ck3 76 q.2.1)) = true := by decide +kernel
theorem m_k77 : (mc77).all (fun c => c.2.all (fun q => m_ck3 77 q.2.1)) = true := by decide +kernel
theorem m_k78 : (mc78).all (fun c => c.2.all (fun q => m_ck3 78 q.2.1)) = true := by decide +kernel
theorem m_k79 : (mc79).all (fun c => c.2.all (fun q => m_ck3 79 q.2.1)) = true := by decide +kernel
theorem m_k80 : (mc80).all (fun c => c.2.all (fun q => m_ck3 80 q.2.1)) = true := by decide +kernel
theorem m_k81 : (mc81).all (fun c => c.2.all (fun q => m_ck3 81 q.2.1)) = true := by decide +kernel
theorem m_k82 : (mc82).all (fun c => c.2.all (fun q => m_ck3 82 q.2.1)) = true := by decide +kernel
theorem m_k83 : (mc83).all (fun c => c.2.all (fun q => m_ck3 83 q.2.1)) = true := by decide +kernel
theorem m_k84 : (mc84).all (fun c => c.2.all (fun q => m_ck3 84 q.2.1)) = true := by decide +kernel
theorem m_k85 : (mc85).all (fun c => c.2.all (fun q => m_ck3 85 q.2.1)) = true := by decide +kernel
theorem m_k86 : (mc86).all (fun c => c.2.all (fun q => m_ck3 86 q.2.1)) = true := by decide +kernel
theorem m_k87 : (mc87).all (fun c => c.2.all (fun q => m_ck3 87 q.2.1)) = true := by decide +kernel
theorem m_k88 : (mc88).all (fun c => c.2.all (fun q => m_ck3 88 q.2.1)) = true := by decide +kernel
theorem m_k89 : (mc89).all (fun c => c.2.all (fun q => m_ck3 89 q.2.1)) = true := by decide +kernel
theorem m_k90 : (mc90).all (fun c => c.2.all (fun q => m_ck3 90 q.2.1)) = true := by decide +kernel
theorem m_k91 : (mc91).all (fun c => c.2.all (fun q => m_ck3 91 q.2.1)) = true := by decide +kernel
theorem m_k92 : (mc92).all (fun c => c.2.all (fun q => m_ck3 92 q.2.1)) = true := by decide +kernel
theorem m_k93 : (mc93).all (fun c => c.2.all (fun q => m_ck3 93 q.2.1)) = true := by decide +kernel
theorem m_k94 : (mc94).all (fun c => c.2.all (fun q => m_ck3 94 q.2.1)) = true := by decide +kernel
theorem m_k95 : (mc95).all (fun c => c.2.all (fun q => m_ck3 95 q.2.1)) = true := by decide +kernel
theorem m_k96 : (mc96).all (fun c => c.2.all (fun q => m_ck3 96 q.2.1)) = true := by decide +kernel
theorem m_k97 : (mc97).all (fun c => c.2.all (fun q => m_ck3 97 q.2.1)) = true := by decide +kernel
theorem m_k98 : (mc98).all (fun c => c.2.all (fun q => m_ck3 98 q.2.1)) = true := by decide +kernel
theorem m_k99 : (mc99).all (fun c => c.2.all (fun q => m_ck3 99 q.2.1)) = true := by decide +kernel
theorem m_k100 : (mc100).all (fun c => c.2.all (fun q => m_ck3 100 q.2.1)) = true := by decide +kernel
theorem m_k101 : (mc101).all (fun c => c.2.all (fun q => m_ck3 101 q.2.1)) = true := by decide +kernel
theorem m_k102 : (mc102).all (fun c => c.2.all (fun q => m_ck3 102 q.2.1)) = true := by decide +kernel
theorem m_k103 : (mc103).all (fun c => c.2.all (fun q => m_ck3 103 q.2.1)) = true := by decide +kernel
theorem m_k104 : (mc104).all (fun c => c.2.all (fun q => m_ck3 104 q.2.1)) = true := by decide +kernel
theorem m_k105 : (mc105).all (fun c => c.2.all (fun q => m_ck3 105 q.2.1)) = true := by decide +kernel
theorem m_k106 : (mc106).all (fun c => c.2.all (fun q => m_ck3 106 q.2.1)) = true := by decide +kernel
theorem m_k107 : (mc107).all (fun c => c.2.all (fun q => m_ck3 107 q.2.1)) = true := by decide +kernel
theorem m_k108 : (mc108).all (fun c => c.2.all (fun q => m_ck3 108 q.2.1)) = true := by decide +kernel
theorem m_k109 : (mc109).all (fun c => c.2.all (fun q => m_ck3 109 q.2.1)) = true := by decide +kernel
theorem m_k110 : (mc110).all (fun c => c.2.all (fun q => m_ck3 110 q.2.1)) = true := by decide +kernel
theorem m_k111 : (mc111).all (fun c => c.2.all (fun q => m_ck3 111 q.2.1)) = true := by decide +kernel
theorem m_k112 : (mc112).all (fun c => c.2.all (fun q => m_ck3 112 q.2.1)) = true := by decide +kernel
theorem m_k113 : (mc113).all (fun c => c.2.all (fun q => m_ck3 113 q.2.1)) = true := by decide +kernel
theorem m_k114 : (mc114).all (fun c => c.2.all (fun q => m_ck3 114 q.2.1)) = true := by decide +kernel
theorem m_k115 : (mc115).all (fun c => c.2.all (fun q => m_ck3 115 q.2.1)) = true := by decide +kernel
theorem m_k116 : (mc116).all (fun c => c.2.all (fun q => m_ck3 116 q.2.1)) = true := by decide +kernel
theorem m_k117 : (mc117).all (fun c => c.2.all (fun q => m_ck3 117 q.2.1)) = true := by decide +kernel
theorem m_k118 : (mc118).all (fun c => c.2.all (fun q => m_ck3 118 q.2.1)) = true := by decide +kernel
theorem m_k : ∀ y, y < 119 → (m_code y).all (fun c => c.2.all (fun q => m_ck3 y q.2.1)) = true
  | 0, _ => m_k0
  | 1, _ => m_k1
  | 2, _ => m_k2
  | 3, _ => m_k3
  | 4, _ => m_k4
  | 5, _ => m_k5
  | 6, _ => m_k6
  | 7, _ => m_k7
  | 8, _ => m_k8
  | 9, _ => m_k9
  | 10, _ => m_k10
  | 11, _ => m_k11
  | 12, _ => m_k12
  | 13, _ => m_k13
  | 14, _ => m_k14
  | 15, _ => m_k15
  | 16, _ => m_k16
  | 17, _ => m_k17
  | 18, _ => m_k18
  | 19, _ => m_k19
  | 20, _ => m_k20
  | 21, _ => m_k21
  | 22, _ => m_k22
  | 23, _ => m_k23
  | 24, _ => m_k24
  | 25, _ => m_k25
  | 26, _ => m_k26
  | 27, _ => m_k27
  | 28, _ => m_k28
  | 29, _ => m_k29
  | 30, _ => m_k30
  | 31, _ => m_k31
  | 32, _ => m_k32
  | 33, _ => m_k33
  | 34, _ => m_k34
  | 35, _ => m_k35
  | 36, _ => m_k36
  | 37, _ => m_k37
  | 38, _ => m_k38
  | 39, _ => m_k39
  | 40, _ => m_k40
  | 41, _ => m_k41
  | 42, _ => m_k42
  | 43, _ => m_k43
  | 44, _ => m_k44
  | 45, _ => m_k45
  | 46, _ => m_k46
  | 47, _ => m_k47
  | 48, _ => m_k48
  | 49, _ => m_k49
  | 50, _ => m_k50
  | 51, _ => m_k51
  | 52, _ => m_k52
  | 53, _ => m_k53
  | 54, _ => m_k54
  | 55, _ => m_k55
  | 56, _ => m_k56
  | 57, _ => m_k57
  | 58, _ => m_k58
  | 59, _ => m_k59
  | 60, _ => m_k60
  | 61, _ => m_k61
  | 62, _ => m_k62
  | 63, _ => m_k63
  | 64, _ => m_k64
  | 65, _ => m_k65
  | 66, _ => m_k66
  | 67, _ => m_k67
  | 68, _ => m_k68
  | 69, _ => m_k69
  | 70, _ => m_k70
  | 71, _ => m_k71
  | 72, _ => m_k72
  | 73, _ => m_k73
  | 74, _ => m_k74
  | 75, _ => m_k75
  | 76, _ => m_k76
  | 77, _ => m_k77
  | 78, _ => m_k78
  | 79, _ => m_k79
  | 80, _ => m_k80
  | 81, _ => m_k81
  | 82, _ => m_k82
  | 83, _ => m_k83
  | 84, _ => m_k84
  | 85, _ => m_k85
  | 86, _ => m_k86
  | 87, _ => m_k87
  | 88, _ => m_k88
  | 89, _ => m_k89
  | 90, _ => m_k90
  | 91, _ => m_k91
  | 92, _ => m_k92
  | 93, _ => m_k93
  | 94, _ => m_k94
  | 95, _ => m_k95
  | 96, _ => m_k96
  | 97, _ => m_k97
  | 98, _ => m_k98
  | 99, _ => m_k99
  | 100, _ => m_k100
  | 101, _ => m_k101
  | 102, _ => m_k102
  | 103, _ => m_k103
  | 104, _ => m_k104
  | 105, _ => m_k105
  | 106, _ => m_k106
  | 107, _ => m_k107
  | 108, _ => m_k108
  | 109, _ => m_k109
  | 110, _ => m_k110
  | 111, _ => m_k111
  | 112, _ => m_k112
  | 113, _ => m_k113
  | 114, _ => m_k114
  | 115, _ => m_k115
  | 116, _ => m_k116
  | 117, _ => m_k117
  | 118, _ => m_k118
  | n + 119, h => absurd h (by omega)
theorem m_kat {y pc len tgt : Nat} {i : Instr} (hy : y < 119) (h : m_at y pc = some (i, len, tgt)) : m_ck3 y i = true := by
  obtain ⟨c, hc, hm⟩ := m_at_mem h
  exact List.all_eq_true.mp (List.all_eq_true.mp (m_k y hy) c hc) _ hm
theorem m_kinds (y : Nat) (hy : y < 119) (pc : Nat) (i : Instr) (len tgt : Nat) (h1 : m_at y pc = some (i, len, tgt)) (ix y' : Nat) (hc : m_cl (m_o y) ix = some y') (hk : i = .invokevirtual ix ∨ i = .invokespecial ix) : m_st y' = false := by
  have h := m_kat hy h1
  rcases hk with rfl | rfl
  · simp only [m_ck3, hc, Bool.and_eq_true, Bool.not_eq_true'] at h; exact h.1
  · simp only [m_ck3, hc, Bool.and_eq_true, Bool.not_eq_true'] at h; exact h.1
theorem m_kindV (y : Nat) (hy : y < 119) (pc len tgt ix y' : Nat) (h1 : m_at y pc = some (.invokevirtual ix, len, tgt)) (hc : m_cl (m_o y) ix = some y') : m_ini y' = false := by
  have h := m_kat hy h1
  simp only [m_ck3, hc, Bool.and_eq_true, Bool.not_eq_true'] at h; exact h.2
theorem m_kindS (y : Nat) (hy : y < 119) (pc len tgt ix y' : Nat) (h1 : m_at y pc = some (.invokespecial ix, len, tgt)) (hc : m_cl (m_o y) ix = some y') : m_ini y' = true ∧ m_rt y' = none ∧ m_hw y' = [] := by
  have h := m_kat hy h1
  simp only [m_ck3, hc, Bool.and_eq_true, Bool.not_eq_true', Option.isNone_iff_eq_none, List.isEmpty_iff] at h; exact ⟨h.2.1, h.2.2.1, h.2.2.2⟩
theorem m_kindT (y : Nat) (hy : y < 119) (pc len tgt ix y' : Nat) (h1 : m_at y pc = some (.invokestatic ix, len, tgt)) (hc : m_cl (m_o y) ix = some y') : m_st y' = true := by
  have h := m_kat hy h1
  simp only [m_ck3, hc] at h; exact h
theorem m_named {y : Nat} {args : Array Value} {s : State} (h : (m_cw y).before args s = true) : (s.methodNamed? (m_mn y)).isSome = true := by
  unfold m_cw at h
  split at h
  · obtain ⟨mk, hn⟩ := Cond.code_named h
    rw [hn]; rfl
  · obtain ⟨mk', meth, c, hn', -⟩ := Cond.codeWith_spec h
    rw [hn']; rfl
end
section
/-! A CALL -/
theorem m_cw_spec {y : Nat} {args : Array Value} {s : State} {mk : MethodId} (h : (m_cw y).before args s = true) (hn : s.methodNamed? (m_mn y) = some mk) : ∃ meth c, s.vm.method? mk = some meth ∧ meth.code = some c ∧ c.code = m_by y ∧ c.maxLocals = m_ml y ∧ meth.sig.returnType = m_rt y ∧ meth.locks = false ∧
    c.exceptionTable.toList.map (fun h => (h.startPc, h.endPc, h.handlerPc, h.catchType)) = m_hw y ∧ parseMethodDescriptor (m_mn y).desc = some meth.sig := by
  unfold m_cw at h
  split at h
  · rename_i e0
    obtain ⟨meth, c, h1, h2, h3, h4, h5, h6, h7, h8⟩ := Cond.code_spec hn h
    refine ⟨meth, c, h1, h2, h3, h4, h5, h6, ?_, h8⟩
    rw [e0]
    have : c.exceptionTable.toList = [] := by simpa using h7
    rw [this]; rfl
  · obtain ⟨mk', meth, c, hn', h1, h2, h3, h4, h5, h6, h7, h8⟩ := Cond.codeWith_spec h
    cases hn.symm.trans hn'
    exact ⟨meth, c, h1, h2, h3, h4, h6, h7, h5, h8⟩
theorem m_meth {y : Nat} (hy : y < 119) (h7 : y ≠ 117) : m_cw y ∈ m_tb ∧ (m_mn y).cls = m_R (m_o y) ∧ (if m_st y then Cond.static (m_mn y) ∈ m_tb else Cond.instanceMethod (m_mn y) ∈ m_tb ∧ (m_ini y = true ∨ Cond.selects (m_R (m_o y)) (m_mn y) (m_mn y) ∈ m_tb)) ∧ Cond.initialized (m_R (m_o y)) ∈ m_tb ∧
    (parseMethodDescriptor (m_mn y).desc).map (fun d => d.parameters.length) = some (m_na y - (if m_st y then 0 else 1)) ∧ plainName (m_R (m_o y)) = true ∧ m_ini y = decide ((m_mn y).name = "<init>") ∧ m_na y ≤ m_ml y ∧ (m_st y = true ∨ 1 ≤ m_na y) ∧
    (m_R (m_o y) ≠ "java/lang/invoke/MethodHandle" ∧ m_R (m_o y) ≠ "java/lang/invoke/VarHandle") ∧ (m_st y = true ∨ m_o y < 7) := by
  have h := m_wM y hy
  simp only [m_ckM, Bool.and_eq_true, Bool.or_eq_true, decide_eq_true_eq] at h
  obtain ⟨a1, a2, a3, a4, a5, a6, a7, a8, a9, a10, a11⟩ := h
  refine ⟨a1.resolve_left h7, a2, ?_, a4, a5, a6, a7, a8, a9, a10, a11⟩
  have a3 := a3.resolve_left h7
  split
  · rename_i q
    rw [if_pos q] at a3
    exact of_decide_eq_true a3
  · rename_i q
    rw [if_neg q] at a3
    simpa using a3
/-- a callee's contract: from this heap and these arguments it comes to this end -/
def m_MX (l : Launch) (s0 : State) (rom : Nat → Nat) (romC : Nat → mC) (D : va_G) (cA eC : Nat → ClassId) (y : Nat) (As : List Value) (h : mH) (o : mE) (h' : mH) (K N : Nat) : Prop :=
  MetFree l (m_mn y) (headSpec [m_cw y] { frames := m_nf y, cells := K, slots := N, locals := m_nw y })
    (fun args U => args = (As.map (m_cv (m_ad s0.heap.size rom))).toArray ∧ s0.WarmedH U.vm ∧ m_Rel s0 rom romC D cA eC h U.heap) (fun _ _ _ _ _ => True)
    (fun _ U oc t => oc = m_out (m_ad s0.heap.size rom) o ∧ U.WarmedH t.vm ∧ (∃ Lc : List Loc, U.sameButNew ({ t with vm := U.vm } : State) Lc K N ∧ ∀ q ∈ Lc, s0.heap.size ≤ q.base) ∧ m_Rel s0 rom romC D cA eC h' t.heap)
section SIM
variable {p : Program} {l : Launch} {e : Env} {R : Room} {s0 s : State} {m : MethodId} {args : Array Value} {below : List Frame} {meth : Method} {c : Code} {H : Heap} {locs : List Loc} {cells slots : Nat} {Q : State → Prop} {ls : Array Slot}
variable {rom : Nat → Nat} {romC : Nat → mC} {D : va_G} {cA eC : Nat → ClassId} {y pc len tgt pc' y' K N : Nat} {i : Instr} {L L' : mL} {S S' : List Value} {h h' : mH} {o : mE}
set_option maxHeartbeats 4000000 in
theorem m_simC (C : m_Fr p s0 s m args meth c y) (hK : va_K D m_cls (m_at0 cA) s) (hr : m_romOk s0 rom romC) (hR : m_Rel s0 rom romC D cA eC h H) (hl : m_Loc (m_ad s0.heap.size rom) ls (m_ml y) L) (hF : R.frames = m_nf y) (hLo : R.locals = m_nw y)
    (h1 : m_at y pc = some (i, len, tgt)) (hi : m_inv y i = some y') (hmay : m_may y y' S h = true) (hM : m_MX l s0 rom romC D cA eC y' (S.take (m_na y')).reverse h o h' K N) (hC : cells + K ≤ R.cells) (hSl : slots + N ≤ R.slots) (hlo : ∀ q ∈ locs, s0.heap.size ≤ q.base)
    (kr : ∀ v, o = .inl v → ∀ (H' : Heap) (locs' : List Loc), m_Rel s0 rom romC D cA eC h' H' → (∀ q ∈ locs', s0.heap.size ≤ q.base) → W p l e R s m args below meth c H' locs' (cells + K) (slots + N) Q (F0 m (pc + 3) ls ((v.toList ++ S.drop (m_na y')).map (m_cv (m_ad s0.heap.size rom)))))
    (kx : ∀ x, o = .inr x → ∀ (T' : State) (locs' : List Loc) (st : List Value), Stand p l e R s m args below meth c T' locs' (cells + K) (slots + N) → m_Rel s0 rom romC D cA eC h' T'.heap → (∀ q ∈ locs', s0.heap.size ≤ q.base) → ∃ t, Steps p.tables e below ((T'.setTop (F0 m pc ls st)).pushFrame (.throwing (m_ad s0.heap.size rom x))) t ∧ Q t) :
    W p l e R s m args below meth c H locs cells slots Q (F0 m pc ls (S.map (m_cv (m_ad s0.heap.size rom)))) := by
  obtain ⟨hx, hb, hml, hown, hW, hts, hnm, hrt, hlk, hex, hy⟩ := C
  obtain ⟨hdg, -⟩ := m_at_ok hy h1
  simp only [m_may, Bool.and_eq_true, decide_eq_true_eq] at hmay
  obtain ⟨hn1, hn2, hn3, hn4, hn5⟩ := hmay
  have hcl : ∃ ix, m_cl (m_o y) ix = some y' ∧ (i = .invokevirtual ix ∨ i = .invokespecial ix ∨ i = .invokestatic ix) := by
    unfold m_inv at hi
    split at hi
    · exact ⟨_, hi, Or.inl rfl⟩
    · exact ⟨_, hi, Or.inr (Or.inl rfl)⟩
    · exact ⟨_, hi, Or.inr (Or.inr rfl)⟩
    · cases hi
  obtain ⟨ix, hcl, hkind⟩ := hcl
  obtain ⟨hlink, hy', h7'⟩ := m_cl_ok hcl
  obtain ⟨b1, b2, b3, b4, b5, b6, b7, b8, b9, b10, b11⟩ := m_meth hy' h7'
  have e3 : len = 3 := by
    have hck := (m_at_ok hy h1).2
    simp only [m_ck2, Bool.and_eq_true, Bool.or_eq_true, decide_eq_true_eq] at hck
    rcases hkind with rfl | rfl | rfl <;> (have q := hck.1; simp [m_len] at q; exact q.symm)
  subst e3
  -- the common end of all three kinds of call
  have fin : ∀ (T : State) (g : JFrame) (mk : MethodId) (methY : Method) (cY : Code), T.heap = H → Stand p l e R s m args below meth c T locs cells slots → g = F0 m pc ls ((S.drop (m_na y')).map (m_cv (m_ad s0.heap.size rom))) → s.methodNamed? (m_mn y') = some mk → s.vm.method? mk = some methY → methY.code = some cY → cY.maxLocals = m_ml y' →
      ∃ t, Steps p.tables e below (doInvoke e (T.setTop g) [] mk (((S.take (m_na y')).reverse.map (m_cv (m_ad s0.heap.size rom))).toArray)).1 t ∧ Q t := by
    intro T g mk methY cY hT X hg hnamed hmY hcY hlY
    have hal : s.vm.Alike T.vm := X.warmed.alike
    have hmY' : T.vm.method? mk = some methY := by rw [hal.method?]; exact hmY
    have hcwU : ∀ a, (m_cw y').before a T = true := fun a => word_at X.warmed (m_tb_in b1).2 (hts _ b1)
    have hiniU : ∀ a, (Cond.initialized (m_mn y').cls).before a T = true := fun a => by rw [b2]; exact word_at X.warmed (m_tb_in b4).2 (hts _ b4)
    subst hg
    obtain ⟨oc, t, L', k', n', B, q1, q2, q3, q4, q5, q6⟩ := m_back (maxL := m_ml y') (E := fun _ t L k n => k = K ∧ n = N ∧ ∀ q ∈ L, s0.heap.size ≤ q.base) hM X (g := F0 m pc ls ((S.drop (m_na y')).map (m_cv (m_ad s0.heap.size rom)))) rfl (by rw [hml]; exact hl.1.1) (by rw [hb]; exact hdg) (X.named hnamed) hmY' hcY hlY
      (by rw [hF]; exact hn4) (by show 2 * 0 + _ + _ + _ ≤ _; rw [m_cv_words, hLo]; show 2 * 0 + m_words (S.drop (m_na y')) + (m_ml y' + 11) + m_nw y' ≤ m_nw y; omega)
      (atoms_intro (fun w hw => by simp only [List.mem_singleton] at hw; rw [hw]; exact hcwU _)) (hiniU _) hC hSl
      ⟨rfl, State.WarmedH.trans hW (show s.WarmedH T.vm from X.warmed), by show m_Rel s0 rom romC D cA eC h T.heap; rw [hT]; exact hR⟩
      (fun oc t hq => by
        obtain ⟨-, z2, ⟨Lc, z3, z4⟩, z5⟩ := hq
        exact ⟨Lc, K, N, ⟨z2, z3⟩, rfl, rfl, z4⟩)
    obtain ⟨rfl, rfl, hlo'⟩ := q2
    obtain ⟨rfl, -, -, hR'⟩ := q1
    have hlo2 : ∀ q ∈ locs ++ L', s0.heap.size ≤ q.base := fun q hq => (List.mem_append.mp hq).elim (hlo q) (hlo' q)
    cases o with
    | inl v =>
      have hk := kr v rfl B.heap _ (by rw [q3]; exact hR') hlo2
      obtain ⟨t2, u1, u2⟩ := hk B rfl q5
      refine ⟨t2, ?_, u2⟩
      refine Steps.trans q6 ?_
      have : ((v.map (m_cv (m_ad s0.heap.size rom))).toList ++ (S.drop (m_na y')).map (m_cv (m_ad s0.heap.size rom))) = (v.toList ++ S.drop (m_na y')).map (m_cv (m_ad s0.heap.size rom)) := by
        cases v <;> simp
      show Steps _ _ _ (B.setTop (F0 m (pc + 3) ls ((v.map (m_cv (m_ad s0.heap.size rom))).toList ++ (S.drop (m_na y')).map (m_cv (m_ad s0.heap.size rom))))) t2
      rw [this]
      exact u1
    | inr x =>
      obtain ⟨t2, u1, u2⟩ := kx x rfl B _ _ q5 (by rw [q3]; exact hR') hlo2
      exact ⟨t2, Steps.trans q6 u1, u2⟩
  have hcw0 : (m_cw y').before args s = true := hts _ b1
  have hS : S.map (m_cv (m_ad s0.heap.size rom)) = ((S.take (m_na y')).reverse.map (m_cv (m_ad s0.heap.size rom))).reverse ++ (S.drop (m_na y')).map (m_cv (m_ad s0.heap.size rom)) := by
    rw [← List.map_reverse, List.reverse_reverse, ← List.map_append, List.take_append_drop]
  have hlenA : ((S.take (m_na y')).reverse.map (m_cv (m_ad s0.heap.size rom))).length = m_na y' := by simp [Nat.min_eq_left hn1]
  have hy10 : (m_mn y').cls ≠ "java/lang/invoke/MethodHandle" ∧ (m_mn y').cls ≠ "java/lang/invoke/VarHandle" := by rw [b2]; exact b10
  have hpl : ∀ sig, parseMethodDescriptor (m_mn y').desc = some sig → sig.parameters.length = m_na y' - (if m_st y' then 0 else 1) := fun sig hs => by
    rw [hs] at b5; simpa using b5
  rw [hS]
  intro T hT X
  cases hst : m_st y' with
  | true =>
    -- a static method
    rw [hst] at b3 hpl
    simp only [if_true] at b3 hpl
    have hist : i = .invokestatic ix := by
      rcases hkind with q | q | q
      · exact absurd hst (by rw [m_kinds y hy pc i 3 tgt h1 ix y' hcl (Or.inl q)]; decide)
      · exact absurd hst (by rw [m_kinds y hy pc i 3 tgt h1 ix y' hcl (Or.inr q)]; decide)
      · exact q
    subst hist
    obtain ⟨mk, hnamed⟩ := Option.isSome_iff_exists.mp (m_named hcw0)
    obtain ⟨methM, cM, d1, d2, d3, d4, d5, d6, d7, d8⟩ := m_cw_spec hcw0 hnamed
    have hstatic : methM.isStatic = true := Cond.static_spec hnamed d1 (hts _ b3)
    obtain ⟨kP, hkP, -⟩ := className_of_methodNamed hnamed
    have hinitP : kP.init = .initialized := Cond.initialized_spec (findClass_of_methodNamed hnamed) hkP (by rw [b2]; exact hts _ b4)
    obtain ⟨vm₁, X₁, st1⟩ := X.invokestatic hx hown (hts _ hlink) hnamed d1 hstatic hkP hinitP hy10 (g := F0 m pc ls (((S.take (m_na y')).reverse.map (m_cv (m_ad s0.heap.size rom))).reverse ++ (S.drop (m_na y')).map (m_cv (m_ad s0.heap.size rom)))) rfl (argsL := (S.take (m_na y')).reverse.map (m_cv (m_ad s0.heap.size rom))) (rest := (S.drop (m_na y')).map (m_cv (m_ad s0.heap.size rom))) (by rw [hlenA, hpl _ d8]; omega) rfl (by rw [hb]; exact hdg)
    obtain ⟨t, u1, u2⟩ := fin (T.setVm vm₁) _ mk methM cM hT X₁ rfl hnamed d1 d2 d4
    exact ⟨t, st1 _ (fun acts => by rw [doInvoke_state]; exact u1), u2⟩
  | false =>
    rw [hst] at b3 hpl b9 b11
    simp only [Bool.false_eq_true, if_false, false_or] at b3 hpl b9 b11
    -- the receiver
    have hrc : ∃ (a : Nat) (As : List Value), (S.take (m_na y')).reverse = .ref a :: As ∧ ∃ fs, h.1 a = mO (m_o y') fs := by
      unfold m_rcv at hn3
      rw [hst] at hn3
      simp only [Bool.false_or] at hn3
      split at hn3
      · rename_i a As ea
        refine ⟨a, As, ea, ?_⟩
        split at hn3
        · rename_i ci fs ec
          have : ci = m_o y' := beq_iff_eq.mp hn3
          subst this
          exact ⟨fs, ec⟩
        · cases hn3
      · cases hn3
    obtain ⟨a, As, ea, fs, ec⟩ := hrc
    obtain ⟨ha, hb2, hrel⟩ := m_isObj hR hr ec (by omega)
    have hcellB : ∃ cellB : Cell, T.heap[m_ad s0.heap.size rom a]? = some cellB ∧ cellB.vm = .none ∧ s.vm.findClass (m_R (m_o y')) = some cellB.cls := by
      rcases hrel with ⟨r, q1, q2, cell, z1, z2, z3, -⟩ | ⟨q1, -⟩
      · refine ⟨cell, by rw [hT]; exact z1, z3, ?_⟩
        obtain ⟨C0, T0, N0⟩ := r
        obtain ⟨-, -, -, -, -, -, -, -, g9, -⟩ := m_cls_ok q1
        obtain ⟨-, hfc, -⟩ := hK.1 _ _ q1
        rw [g9, z2]; exact hfc
      · omega
    obtain ⟨cellB, z1, z2, z3⟩ := hcellB
    have hobj : ∀ k, cellB.vm ≠ .statics k := fun k q => by rw [z2] at q; cases q
    rw [ea] at hlenA fin ⊢
    rw [List.map_cons] at hlenA fin ⊢
    have hlenAs : (As.map (m_cv (m_ad s0.heap.size rom))).length = m_na y' - 1 := by
      simp only [List.length_cons] at hlenA
      omega
    obtain ⟨mk, methM, hnamed, hmethM, hstM, habM⟩ := Cond.instanceMethod_spec (hts _ b3.1)
    obtain ⟨methM', cM, d1, d2, d3, d4, d5, d6, d7, d8⟩ := m_cw_spec hcw0 hnamed
    cases hmethM.symm.trans d1
    have hcv : m_cv (m_ad s0.heap.size rom) (.ref a) = .ref (m_ad s0.heap.size rom a) := rfl
    rw [hcv] at fin ⊢
    rcases hkind with rfl | rfl | rfl
    · -- invokevirtual
      have hini0 : m_ini y' = false := m_kindV y hy pc 3 tgt ix y' h1 hcl
      have hsel := hts _ (b3.2.resolve_left (by rw [hini0]; decide))
      obtain ⟨c2, r2, m2, w1, w2, w3, w4, kP, hkP, hkPi⟩ := Cond.selects_spec hsel
      cases z3.symm.trans w1
      cases (State.methodFound?_of_named hnamed hy10).symm.trans w2
      cases hnamed.symm.trans w3
      have hselP : selectMethod e.platform s.vm cellB.cls mk = .method mk := by rw [Launch.admits_selectMethod X.admits]; exact w4
      obtain ⟨vm₁, X₁, st1⟩ := X.invokevirtual hx hown (hts _ hlink) hnamed hmethM hstM hkP hkPi hy10 (a := m_ad s0.heap.size rom a) (cell := cellB) z1 hobj hselP hmethM habM hkP hkPi
        (g := F0 m pc ls ((Value.ref (m_ad s0.heap.size rom a) :: As.map (m_cv (m_ad s0.heap.size rom))).reverse ++ (S.drop (m_na y')).map (m_cv (m_ad s0.heap.size rom)))) rfl (argsL := As.map (m_cv (m_ad s0.heap.size rom))) (rest := (S.drop (m_na y')).map (m_cv (m_ad s0.heap.size rom))) (by rw [hlenAs, hpl _ d8]) (by show (_ : List Value).reverse ++ _ = _; rw [List.reverse_cons, List.append_assoc]; rfl) (by rw [hb]; exact hdg)
      obtain ⟨t, u1, u2⟩ := fin (T.setVm vm₁) _ mk methM cM hT X₁ rfl hnamed hmethM d2 d4
      exact ⟨t, st1 _ (fun acts => by rw [doInvoke_state]; exact u1), u2⟩
    · -- invokespecial
      have hini1 : m_ini y' = true ∧ m_rt y' = none ∧ m_hw y' = [] := m_kindS y hy pc 3 tgt ix y' h1 hcl
      have hname : (m_mn y').name = "<init>" := by
        rw [hini1.1] at b7
        exact of_decide_eq_true b7.symm
      have hpl0 : e.platform.magicAccessors = ({} : Platform).magicAccessors := by rw [X.admits.platform]
      have hcode0 : (Cond.code (m_mn y') (m_by y') (m_ml y') none).before args s = true := by
        have := hcw0
        unfold m_cw at this
        rw [if_pos hini1.2.2, hini1.2.1] at this
        exact this
      obtain ⟨mk', methM2, cM2, kP, vm₁, hnamed', hmethM2, hcodeM, -, hlocalsM, -, hkP, -, hW₁, hstep₁⟩ := Steps.initColdArgs (e := e) X.here hx X.warmed hpl0 hown hname hy10 (hts _ hlink) (hts _ b3.1) hcode0
        (f := F0 m pc ls ((Value.ref (m_ad s0.heap.size rom a) :: As.map (m_cv (m_ad s0.heap.size rom))).reverse ++ (S.drop (m_na y')).map (m_cv (m_ad s0.heap.size rom)))) rfl (argsL := As.map (m_cv (m_ad s0.heap.size rom))) (rest := (S.drop (m_na y')).map (m_cv (m_ad s0.heap.size rom))) (fun sig hs => by rw [hlenAs, hpl _ hs]) (by show (_ : List Value).reverse ++ _ = _; rw [List.reverse_cons, List.append_assoc]; rfl) (by rw [hb]; exact hdg)
      cases hnamed.symm.trans hnamed'
      have X₁ := X.noted hW₁
      obtain ⟨t, u1, u2⟩ := fin (T.setVm vm₁) _ mk methM cM hT X₁ rfl hnamed hmethM d2 d4
      exact ⟨t, hstep₁ _ (fun acts => by rw [doInvoke_state]; exact u1), u2⟩
    · -- invokestatic of an instance method: no such
      exact absurd hst (by rw [m_kindT y hy pc 3 tgt ix y' h1 hcl]; decide)
end SIM
end
section
/-! the machine's heap only grows -/
def m_le (h h' : mH) : Prop := h.2.1 ≤ h'.2.1 ∧ h.2.2 ≤ h'.2.2
theorem m_le_rf (h : mH) : m_le h h := ⟨Nat.le_refl _, Nat.le_refl _⟩
theorem m_le_tr {a b c : mH} (h1 : m_le a b) (h2 : m_le b c) : m_le a c := ⟨Nat.le_trans h1.1 h2.1, Nat.le_trans h1.2 h2.2⟩
theorem m_le_set (h : mH) (k : Nat) (c : mC) : m_le h (m_set h k c) := ⟨Nat.le_refl _, Nat.le_refl _⟩
theorem m_le_push (h : mH) (c : mC) (n : Nat) : m_le h (m_push h c n) := ⟨Nat.le_succ _, Nat.le_add_right _ _⟩
theorem m_le_pushG (h : mH) (n k : Nat) : m_le h (m_pushG h n k) := ⟨by show h.2.1 ≤ h.2.1 + 1 + n; omega, by show h.2.2 ≤ h.2.2 + (n + n * k); omega⟩
set_option maxHeartbeats 4000000 in
theorem m_step_le {y pc len tgt pc' : Nat} {i : Instr} {L L' : mL} {S S' : List Value} {h h' : mH} (h2 : m_step y pc i len tgt L S h = some (pc', L', S', h')) : m_le h h' := by
  cases i
  all_goals first
    | (simp only [m_step, reduceCtorEq] at h2; done)
    | (simp only [m_step, Option.some.injEq, Prod.mk.injEq] at h2
       obtain ⟨-, -, -, rfl⟩ := h2
       exact m_le_rf _)
    | (simp only [m_step] at h2
       repeat' (first | (cases h2; done) | split at h2)
       all_goals (try simp only [Option.some.injEq, Prod.mk.injEq] at h2)
       all_goals (try (obtain ⟨-, -, -, rfl⟩ := h2))
       all_goals first | exact m_le_rf _ | exact m_le_set _ _ _ | exact m_le_push _ _ _)
set_option maxHeartbeats 4000000 in
theorem m_more_le {y pc len pc' : Nat} {i : Instr} {L L' : mL} {S S' : List Value} {h h' : mH} (h2 : m_more y pc i len L S h = some (pc', L', S', h')) : m_le h h' := by
  have hif : ∀ {q : Prop} {r : Nat × mL × List Value × mH}, m_if q (some r) none = some (pc', L', S', h') → r = (pc', L', S', h') := by
    intro q r hq
    by_cases hp : q
    · rw [m_if_t hp] at hq; exact Option.some.inj hq
    · rw [m_if_f hp] at hq; cases hq
  unfold m_more at h2
  split at h2
  · split at h2
    · split at h2
      · have := hif h2; simp only [Prod.mk.injEq] at this; obtain ⟨-, -, -, rfl⟩ := this; exact m_le_push _ _ _
      · cases h2
    · cases h2
  · split at h2
    · have := hif h2; simp only [Prod.mk.injEq] at this; obtain ⟨-, -, -, rfl⟩ := this; exact m_le_pushG _ _ _
    · cases h2
  · split at h2
    · have := hif h2; simp only [Prod.mk.injEq] at this; obtain ⟨-, -, -, rfl⟩ := this; exact m_le_rf _
    · cases h2
  · split at h2
    · have := hif h2; simp only [Prod.mk.injEq] at this; obtain ⟨-, -, -, rfl⟩ := this; exact m_le_rf _
    · cases h2
  · split at h2
    · split at h2
      · simp only [Option.some.injEq, Prod.mk.injEq] at h2; obtain ⟨-, -, -, rfl⟩ := h2; exact m_le_rf _
      · cases h2
    · cases h2
  · split at h2
    · split at h2
      · have := hif h2; simp only [Prod.mk.injEq] at this; obtain ⟨-, -, -, rfl⟩ := this; exact m_le_set _ _ _
      · cases h2
    · cases h2
  · cases h2
theorem m_go_le {y pc len tgt pc' : Nat} {i : Instr} {L L' : mL} {S S' : List Value} {h h' : mH} (h2 : m_go y pc i len tgt L S h = some (pc', L', S', h')) : m_le h h' := by
  have hif : ∀ {q : Prop} {r : Nat × mL × List Value × mH}, m_if q (some r) none = some (pc', L', S', h') → r = (pc', L', S', h') := by
    intro q r hq
    by_cases hp : q
    · rw [m_if_t hp] at hq; exact Option.some.inj hq
    · rw [m_if_f hp] at hq; cases hq
  unfold m_go at h2
  split at h2
  · rename_i r hr
    cases h2
    exact m_step_le hr
  · split at h2
    · simp only [Option.some.injEq, Prod.mk.injEq] at h2; obtain ⟨-, -, -, rfl⟩ := h2; exact m_le_rf _
    · split at h2
      · have := hif h2; simp only [Prod.mk.injEq] at this; obtain ⟨-, -, -, rfl⟩ := this; exact m_le_rf _
      · split at h2
        · have := hif h2; simp only [Prod.mk.injEq] at this; obtain ⟨-, -, -, rfl⟩ := this; exact m_le_set _ _ _
        · cases h2
        · exact m_more_le h2
theorem m_thr_le {y pc x : Nat} {i : Instr} {S : List Value} {h h' : mH} (h2 : m_thr y pc i S h = some (x, h')) : h' = m_push h (h'.1 x) 6 ∧ x = h.2.1 ∧ ∃ ci, (ci = 7 ∨ ci = 8) ∧ h'.1 x = mO ci [] := by
  unfold m_thr at h2
  split at h2
  · split at h2
    · rename_i ci e1
      split at h2
      · rename_i e2
        simp only [Option.some.injEq, Prod.mk.injEq] at h2
        obtain ⟨rfl, rfl⟩ := h2
        simp only [Bool.and_eq_true, Nat.ble_eq, Nat.blt_eq] at e2
        have e3 : (m_push h (mO ci []) 6).1 h.2.1 = mO ci [] := if_pos rfl
        refine ⟨by rw [e3], rfl, ci, by omega, e3⟩
      · cases h2
    · cases h2
  · cases h2
/-- the heap grows; what is thrown is an exception's object -/
theorem m_exec_le : ∀ (n y pc : Nat) (L : mL) (S : List Value) (h : mH) (o : mE) (h' : mH), m_exec n y pc L S h = some (o, h') → m_le h h' ∧ ∀ x, o = .inr x → ∃ ci, (ci = 7 ∨ ci = 8) ∧ h'.1 x = mO ci [] := by
  intro n
  induction n with
  | zero => intro y pc L S h o h' q; simp [m_exec] at q
  | succ n ih =>
    intro y pc L S h o h' q
    rw [m_exec] at q
    cases e1 : m_at y pc with
    | none => rw [e1] at q; simp at q
    | some a =>
      obtain ⟨i, len, tgt⟩ := a
      rw [e1] at q
      dsimp only at q
      cases e2 : m_go y pc i len tgt L S h with
      | some b =>
        obtain ⟨pc', L', S', h1⟩ := b
        rw [e2] at q
        obtain ⟨q1, q2⟩ := ih _ _ _ _ _ _ _ q
        exact ⟨m_le_tr (m_go_le e2) q1, q2⟩
      | none =>
        rw [e2] at q
        dsimp only at q
        cases e3 : m_inv y i with
        | none =>
          rw [e3] at q
          dsimp only at q
          cases e4 : m_ret y i S with
          | some v =>
            rw [e4] at q
            simp only [Option.some.injEq, Prod.mk.injEq] at q
            obtain ⟨rfl, rfl⟩ := q
            exact ⟨m_le_rf _, fun x hx => by cases hx⟩
          | none =>
            rw [e4] at q
            dsimp only at q
            cases e5 : m_thr y pc i S h with
            | none => rw [e5] at q; cases q
            | some w =>
              obtain ⟨x, h1⟩ := w
              rw [e5] at q
              simp only [Option.some.injEq, Prod.mk.injEq] at q
              obtain ⟨rfl, rfl⟩ := q
              obtain ⟨t1, t2, t3⟩ := m_thr_le e5
              exact ⟨by rw [t1]; exact m_le_push _ _ _, fun z hz => by cases hz; exact t3⟩
        | some y' =>
          rw [e3] at q
          dsimp only at q
          cases e4 : m_may y y' S h with
          | false => rw [e4] at q; simp at q
          | true =>
            rw [e4] at q
            dsimp only at q
            cases e5 : m_exec n y' 0 (m_entry y' (S.take (m_na y')).reverse) [] h with
            | none => rw [e5] at q; simp at q
            | some w =>
              obtain ⟨o1, h1⟩ := w
              rw [e5] at q
              obtain ⟨r1, r2⟩ := ih _ _ _ _ _ _ _ e5
              cases o1 with
              | inl v =>
                obtain ⟨q1, q2⟩ := ih _ _ _ _ _ _ _ q
                exact ⟨m_le_tr r1 q1, q2⟩
              | inr x =>
                dsimp only at q
                cases e6 : m_catch y pc h1 x with
                | none =>
                  rw [e6] at q
                  simp only [Option.some.injEq, Prod.mk.injEq] at q
                  obtain ⟨rfl, rfl⟩ := q
                  exact ⟨r1, fun z hz => by cases hz; exact r2 x rfl⟩
                | some t =>
                  rw [e6] at q
                  obtain ⟨q1, q2⟩ := ih _ _ _ _ _ _ _ q
                  exact ⟨m_le_tr r1 q1, q2⟩
end
section
/-! A THROW COMES BACK TO THE CALLER -/
theorem m_step_leave {e : Env} {s : State} {a : Addr} {f : JFrame} {r : List Frame} {meth : Method} {vm' : Vm} (hal : s.vm.Alike vm')
    (hm : s.vm.method? f.method = some meth) (hl : meth.locks = false) (hlocked : f.locked = none) (hentered : f.entered = []) (hfind : m_Finds e s f a .none vm') :
    (stepThrowing e s a (.java f :: r)).Is ((s.setVm vm').setFrames (.throwing a :: r)) [] := by
  have hm' : vm'.method? f.method = some meth := by rw [hal.method?]; exact hm
  simp only [stepThrowing, searchFrame, vmDo]
  generalize hr : Sem.go _ e false [] s = res
  obtain ⟨as, rfl, ha⟩ := Sem.eq_ok_of hr (a := Handler.none) (s' := s.setVm vm') (acts' := [])
    (by cases hp : e.platform.frameOwnsMonitors <;> simp [hfind _ _ _ _, hm', hl, hlocked, hentered, hp, leaveIfLocked])
  exact ⟨rfl, ha⟩
/-- what the search finds, by the rows of numbers alone -/
def m_hitL (pc : Nat) (ok : Nat → Bool) (l : List (Nat × Nat × Nat × Nat)) : Option Nat := (l.find? (fun r => (Nat.ble r.1 pc && Nat.blt pc r.2.1) && ok r.2.2.2)).map (fun r => r.2.2.1)
theorem m_hit_eq (pc : Nat) (ok : Nat → Bool) : ∀ tl : List ExceptionTableEntry, m_hit pc ok tl = (match m_hitL pc ok (tl.map (fun h => (h.startPc, h.endPc, h.handlerPc, h.catchType))) with | some t => .found t | none => .none)
  | [] => rfl
  | x :: t => by
    have e1 : covers x pc = (Nat.ble x.startPc pc && Nat.blt pc x.endPc) := by
      unfold covers
      rw [Bool.eq_iff_iff]
      simp [Nat.ble_eq, Nat.blt_eq]
    rw [m_hit, m_hit_eq pc ok t]
    unfold m_hitL
    rw [List.map_cons, List.find?_cons]
    rw [e1]
    cases hq : (Nat.ble x.startPc pc && Nat.blt pc x.endPc) && ok x.catchType with
    | true => simp
    | false => simp
def m_hc (t : Nat) : Nat := if t = 13 then 7 else 8
theorem m_hdw : ∀ y, y < 119 → m_hd y = (m_hw y).map (fun r => (r.1, r.2.1, r.2.2.1, m_hc r.2.2.2)) := by decide +kernel
theorem m_hwc : ∀ y, y < 119 → ∀ r ∈ m_hw y, (r.2.2.2 = 13 ∨ r.2.2.2 = 15) ∧ m_o y = 9 := by decide +kernel
theorem m_catch_eq {y pc x ci : Nat} {h : mH} (hy : y < 119) (e : h.1 x = mO ci []) : m_catch y pc h x = m_hitL pc (fun t => Nat.beq (m_hc t) ci) (m_hw y) := by
  unfold m_catch
  rw [e]
  dsimp only
  rw [m_hdw y hy]
  unfold m_hitL
  rw [List.find?_map]
  rw [Option.map_map]
  rfl
set_option maxRecDepth 100000 in
theorem m_cain : ∀ w ∈ [Cond.classLink (m_R 9) 13 (m_R 7), Cond.classLink (m_R 9) 15 (m_R 8)], w ∈ m_tb := by decide +kernel
section SIM
variable {p : Program} {l : Launch} {e : Env} {R : Room} {s0 s : State} {m : MethodId} {args : Array Value} {below : List Frame} {meth : Method} {c : Code} {locs : List Loc} {cells slots : Nat} {ls : Array Slot}
variable {rom : Nat → Nat} {romC : Nat → mC} {D : va_G} {cA eC : Nat → ClassId} {y pc : Nat} {h : mH}
set_option maxHeartbeats 4000000 in
theorem m_simK {x ci : Nat} {T : State} {st : List Value} (C : m_Fr p s0 s m args meth c y) (hr : m_romOk s0 rom romC) (hec : ∀ ci, (ci = 7 ∨ ci = 8) → s.vm.findClass (m_R ci) = some (eC ci)) (has : ∀ ci cj, (ci = 7 ∨ ci = 8) → (cj = 7 ∨ cj = 8) → s.vm.assignable (eC ci) (eC cj) = decide (cj = ci))
    (X : Stand p l e R s m args below meth c T locs cells slots) (hR : m_Rel s0 rom romC D cA eC h T.heap) (hci : ci = 7 ∨ ci = 8) (hx : h.1 x = mO ci []) :
    ∃ vm', s.WarmedH vm' ∧ (∀ t, m_catch y pc h x = some t → ∀ tg, Steps p.tables e below ((T.setVm vm').setTop (F0 m t ls [.ref (m_ad s0.heap.size rom x)])) tg → Steps p.tables e below ((T.setTop (F0 m pc ls st)).pushFrame (.throwing (m_ad s0.heap.size rom x))) tg) ∧
      (m_catch y pc h x = none → Steps p.tables e below ((T.setTop (F0 m pc ls st)).pushFrame (.throwing (m_ad s0.heap.size rom x))) ((T.setVm vm').setFrames (.throwing (m_ad s0.heap.size rom x) :: below))) := by
  obtain ⟨hxe, hb, hml, hown, hW, hts, hnm, hrt, hlk, hex, hy⟩ := C
  obtain ⟨ha, hb2, hrel⟩ := m_isObj hR hr hx (by omega)
  have hcell : ∃ cell : Cell, T.heap[m_ad s0.heap.size rom x]? = some cell ∧ cell.cls = eC ci ∧ cell.vm = .none := by
    rcases hrel with ⟨r, q1, -⟩ | ⟨-, -, cell, z1, z2, z3⟩
    · exfalso
      rcases hci with rfl | rfl <;> simp [m_cls] at q1
    · exact ⟨cell, z1, z2, z3⟩
  obtain ⟨cell, z1, z2, z3⟩ := hcell
  have hpl : e.platform.magicAccessors = ({} : Platform).magicAccessors := by rw [X.admits.platform]
  have hkk : ∀ cj, (cj = 7 ∨ cj = 8) → ∃ k, s.vm.classes[eC cj]? = some k := fun cj hcj => Vm.classAt_of_findClass (hec cj hcj)
  have hU : s.WarmedH ((T.setTop (F0 m pc ls st)).pushFrame (.throwing (m_ad s0.heap.size rom x))).vm := X.warmed
  obtain ⟨vm', w1, w2⟩ := m_search (e := e) (f := F0 m pc ls st) (a := m_ad s0.heap.size rom x) (s₀ := s) (cell := cell) (ok := fun t => Nat.beq (m_hc t) ci) c.exceptionTable.toList ((T.setTop (F0 m pc ls st)).pushFrame (.throwing (m_ad s0.heap.size rom x))) hU z1 (fun k q => by rw [z3] at q; cases q) (by rw [z2]; exact hkk ci hci) (fun r hrr => by
    have hm : (r.startPc, r.endPc, r.handlerPc, r.catchType) ∈ m_hw y := by rw [← hex]; exact List.mem_map.mpr ⟨r, hrr, rfl⟩
    obtain ⟨g1, g2⟩ := m_hwc y hy _ hm
    have hown9 : s.vm.findClass (m_R 9) = some m.cls := by rw [← g2]; exact hown
    rcases g1 with g1 | g1
    · have g1 : r.catchType = 13 := g1
      obtain ⟨c0, hfc0, hcl⟩ := Cond.classLink_spec hown9 (hts _ (m_cain _ (by simp : Cond.classLink (m_R 9) 13 (m_R 7) ∈ _))) e.platform hpl
      have : c0 = eC 7 := Option.some.inj (hfc0.symm.trans (hec 7 (Or.inl rfl)))
      subst this
      rw [g1]
      refine ⟨by decide, eC 7, hcl, hkk 7 (Or.inl rfl), ?_⟩
      rw [z2, has ci 7 hci (Or.inl rfl)]
      rcases hci with rfl | rfl <;> decide
    · have g1 : r.catchType = 15 := g1
      obtain ⟨c0, hfc0, hcl⟩ := Cond.classLink_spec hown9 (hts _ (m_cain _ (by simp : Cond.classLink (m_R 9) 15 (m_R 8) ∈ _))) e.platform hpl
      have : c0 = eC 8 := Option.some.inj (hfc0.symm.trans (hec 8 (Or.inr rfl)))
      subst this
      rw [g1]
      refine ⟨by decide, eC 8, hcl, hkk 8 (Or.inr rfl), ?_⟩
      rw [z2, has ci 8 hci (Or.inr rfl)]
      rcases hci with rfl | rfl <;> decide)
  have hAt : At T m c below := X.here
  have hmeth : T.vm.method? m = some meth := X.method'
  have hmeth2 : ((T.setTop (F0 m pc ls st)).pushFrame (.throwing (m_ad s0.heap.size rom x))).vm.method? m = some meth := hmeth
  have hfind : m_Finds e ((T.setTop (F0 m pc ls st)).pushFrame (.throwing (m_ad s0.heap.size rom x))) (F0 m pc ls st) (m_ad s0.heap.size rom x) (match m_catch y pc h x with | some t => .found t | none => .none) vm' := by
    intro Q E d acts
    rw [W.findHandler_eq (f := F0 m pc ls st) hmeth2 X.code, w2, m_hit_eq, hex, m_catch_eq hy hx]
  refine ⟨vm', w1, fun t ht tg hrest => ?_, fun hn => ?_⟩
  · rw [ht] at hfind
    exact m_caught (g := F0 m pc ls st) hAt hfind hrest
  · rw [hn] at hfind
    obtain ⟨hgo, hw⟩ := At.throwing (g := F0 m pc ls st) hAt (m_ad s0.heap.size rom x)
    refine Steps.head hgo hw ?_
    rw [stepThread_throwing (frames_entered hAt.top _), (m_step_leave (s := (T.setTop (F0 m pc ls st)).pushFrame (.throwing (m_ad s0.heap.size rom x))) (X.warmed.alike.symm.trans w1.alike) (f := F0 m pc ls st) hmeth2 hlk rfl rfl hfind).1]
    obtain ⟨g₀, hg⟩ := Option.isSome_iff_exists.mp hAt.top
    obtain ⟨r, hrr⟩ := State.topJava?_eq_some.mp hg
    have e2 : T.frames.tail = below := X.tail
    have e3 : (((T.setTop (F0 m pc ls st)).pushFrame (.throwing (m_ad s0.heap.size rom x))).setVm vm').setFrames (.throwing (m_ad s0.heap.size rom x) :: T.frames.tail) = (T.setVm vm').setFrames (.throwing (m_ad s0.heap.size rom x) :: below) := by
      rw [e2, State.setTop_of_frames _ hrr, State.pushFrame]
      show ((((T.setFrames _).setFrames _).setVm vm').setFrames _) = _
      show (((T.setVm vm').setFrames _).setFrames _).setFrames _ = _
      rw [State.setFrames_setFrames, State.setFrames_setFrames]
    rw [e3]
    exact Steps.refl _
end SIM
end
section
/-! THE SIMULATION: what the machine does, the JVM does -/
/-- what is known at every invocation -/
def m_Inv (D : va_G) (cA eC : Nat → ClassId) (args : Array Value) (s : State) : Prop :=
  va_K D m_cls (m_at0 cA) s ∧ (∀ w ∈ m_tb, w.before args s = true) ∧ (Cond.arrayOver (.array .int)).before args s = true ∧
  (∀ q ∈ [(59, "STEP_X"), (62, "STEP_Y")], (Cond.fieldLinkNest "EscapeCells$Storey" q.1 "EscapeCells" q.2 "[I" "EscapeCells").before args s = true) ∧
  (∀ ci ic, ((ic = 72 ∧ ci = 7) ∨ (ic = 83 ∧ ci = 8)) → ∀ a ∈ Jvm.Bundle.ownAtoms "EscapeCells" ic (m_R ci) m_names, a.before args s = true) ∧
  (∀ ci, (ci = 7 ∨ ci = 8) → s.vm.findClass (m_R ci) = some (eC ci)) ∧
  (∀ k v, m_lc 5 k = some (.ref v) → ∃ (tx : String) (q : Nat), vk_R "EscapeCells" k tx q s) ∧
  (∀ ci cj, (ci = 7 ∨ ci = 8) → (cj = 7 ∨ cj = 8) → s.vm.assignable (eC ci) (eC cj) = decide (cj = ci))
theorem m_entry_loc {ad : Nat → Nat} {As : List Value} {n : Nat} (h1 : ∀ v ∈ As, m_one v = true) (h2 : As.length ≤ n) :
    m_Loc ad ((lg_sl (As.map (m_cv ad)) ++ List.replicate (n - (lg_sl (As.map (m_cv ad))).length) Slot.unset).toArray) n (As.map some ++ List.replicate (n - As.length) none) := by
  have hc : ∀ v ∈ As, v.category = 1 := fun v hv => by
    have := h1 v hv
    unfold m_one at this
    split at this <;> first | rfl | cases this
  have hsl : ∀ vs : List Value, (∀ v ∈ vs, v.category = 1) → (lg_sl vs).length = vs.length := by
    intro vs hv
    induction vs with
    | nil => rfl
    | cons v t ih =>
      have e1 := hv v List.mem_cons_self
      have e2 := ih (fun w hw => hv w (List.mem_cons_of_mem _ hw))
      show (lg_sl (v :: t)).length = t.length + 1
      have : lg_sl (v :: t) = (if v.category = 2 then [.val v, .second] else [.val v]) ++ lg_sl t := rfl
      rw [this, if_neg (by rw [e1]; decide), List.length_append, e2]
      simp; omega
  have hcm : ∀ v ∈ As.map (m_cv ad), v.category = 1 := fun v hv => by
    obtain ⟨w, hw, rfl⟩ := List.mem_map.mp hv
    rw [m_cv_cat]; exact hc w hw
  have hlen := hsl _ hcm
  rw [List.length_map] at hlen
  have hE := lv_entry (As.map (m_cv ad)) (n := n) (by rw [hlen]; exact h2)
  have hargs : ∀ (vs : List Value) (i j : Nat) (v : Value), (∀ v ∈ vs, v.category = 1) → vs[j]? = some v → (i + j, v) ∈ lv_args i vs := by
    intro vs
    induction vs with
    | nil => intro i j v _ hj; simp at hj
    | cons w t ih =>
      intro i j v hv hj
      have e1 := hv w List.mem_cons_self
      show (i + j, v) ∈ (i, w) :: lv_args (if w.category = 2 then i + 2 else i + 1) t
      rw [if_neg (by rw [e1]; decide)]
      cases j with
      | zero => simp at hj; subst hj; exact List.mem_cons_self
      | succ j =>
        refine List.mem_cons_of_mem _ ?_
        have := ih (i + 1) j v (fun w hw => hv w (List.mem_cons_of_mem _ hw)) (by simpa using hj)
        rw [show i + 1 + j = i + (j + 1) by omega] at this
        exact this
  refine ⟨⟨hE.1, hE.2.1, fun q hq => ?_⟩, fun v hv => ?_, by simp; omega⟩
  · obtain ⟨i, w⟩ := q
    obtain ⟨q1, v, q2, rfl⟩ := m_asc_mem.mp hq
    refine hE.2.2 (i, m_cv ad v) ?_
    have hi : As[i]? = some v := by
      unfold m_ld at q2
      rw [List.getD_eq_getElem?_getD] at q2
      rcases Nat.lt_or_ge i As.length with hlt | hge
      · rw [List.getElem?_append_left (by simpa using hlt), List.getElem?_map] at q2
        cases hq : As[i]? with
        | none => rw [hq] at q2; simp at q2
        | some z => rw [hq] at q2; simp at q2; rw [q2]
      · rw [List.getElem?_append_right (by simpa using hge), List.getElem?_replicate] at q2
        split at q2 <;> simp at q2
    have := hargs (As.map (m_cv ad)) 0 i (m_cv ad v) hcm (by rw [List.getElem?_map, hi]; rfl)
    simpa using this
  · rcases List.mem_append.mp hv with q | q
    · obtain ⟨w, hw, e⟩ := List.mem_map.mp q
      cases e; exact hc v hw
    · have := List.eq_of_mem_replicate q
      cases this
section SIM
variable {l : Launch} {s0 : State} {rom : Nat → Nat} {romC : Nat → mC} {D : va_G} {cA eC : Nat → ClassId}
theorem W_mono {p : Program} {e : Env} {R : Room} {s : State} {m : MethodId} {args : Array Value} {below : List Frame} {meth : Method} {c : Code} {H : Heap} {locs : List Loc} {cells slots : Nat} {Q Q' : State → Prop} {g : JFrame} (hq : ∀ t, Q t → Q' t) (k : W p l e R s m args below meth c H locs cells slots Q g) : W p l e R s m args below meth c H locs cells slots Q' g := by
  intro T hT X
  obtain ⟨t, a, b⟩ := k T hT X
  exact ⟨t, a, hq t b⟩
set_option maxHeartbeats 4000000 in
/-- a return -/
theorem m_simR {p : Program} {e : Env} {R : Room} {s : State} {m : MethodId} {args : Array Value} {below : List Frame} {meth : Method} {c : Code} {H : Heap} {locs : List Loc} {cells slots : Nat} {ls : Array Slot} {y pc len tgt : Nat} {i : Instr} {S : List Value} {h : mH} {v : Option Value}
    (C : m_Fr p s0 s m args meth c y) (hR : m_Rel s0 rom romC D cA eC h H) (h1 : m_at y pc = some (i, len, tgt)) (h2 : m_ret y i S = some v) (hlo : ∀ q ∈ locs, s0.heap.size ≤ q.base) :
    W p l e R s m args below meth c H locs cells slots (m_Fin s0 rom romC D cA eC s below (.inl v) h cells slots) (F0 m pc ls (S.map (m_cv (m_ad s0.heap.size rom)))) := by
  obtain ⟨hx, hb, hml, hown, hW, hts, hnm, hrt, hlk, hex, hy⟩ := C
  obtain ⟨hdg, hck⟩ := m_at_ok hy h1
  simp only [m_ck2, Bool.and_eq_true, Bool.or_eq_true, decide_eq_true_eq] at hck
  obtain ⟨hlen, -, -⟩ := hck
  have fin : ∀ w : Option Value, ∀ t : State, MQ below (fun _ _ o t => o = .returned w ∧ m_Rel s0 rom romC D cA eC h t.heap) args s cells slots (fun q => s0.heap.size ≤ q) t → w = v.map (m_cv (m_ad s0.heap.size rom)) → m_Fin s0 rom romC D cA eC s below (.inl v) h cells slots t := by
    rintro w t ⟨o, a1, a2, ⟨rfl, a3⟩, Lc, ⟨-, a4, a5⟩, a6⟩ rfl
    exact ⟨a1, a2, a4, ⟨Lc, a5, a6⟩, a3⟩
  unfold m_ret at h2
  split at h2
  · split at h2
    · rename_i hn
      cases h2
      have e0 : len = 1 := by simp [m_len] at hlen; exact hlen.symm
      subst e0
      refine W_mono (fun t ht => fin none t ht rfl) ?_
      exact W.vret hx hb (by rw [hrt]; exact hn) (fun t ht _ => ⟨rfl, by rw [ht]; exact hR⟩) hlo hdg hlk
    · cases h2
  · split at h2
    · rename_i x ty hty
      split at h2
      · rename_i hf
        cases h2
        have e0 : len = 1 := by simp [m_len] at hlen; exact hlen.symm
        subst e0
        refine W_mono (fun t ht => fin (some (.int x)) t ht rfl) ?_
        exact W.zret hx hb (by rw [hrt]; exact hty) (m_fit_ok hf).1 (fun t ht _ => ⟨rfl, by rw [ht]; exact hR⟩) hlo hdg hlk
      · cases h2
    · cases h2
  · split at h2
    · rename_i x ty hty
      cases h2
      have e0 : len = 1 := by simp [m_len] at hlen; exact hlen.symm
      subst e0
      refine W_mono (fun t ht => fin (some (.ref (m_ad s0.heap.size rom x))) t ht rfl) ?_
      exact W.aret hx hb (by rw [hrt]; exact hty) (Or.inr ⟨_, rfl⟩) (Or.inr ⟨_, rfl⟩) (fun t ht _ => ⟨rfl, by rw [ht]; exact hR⟩) hlo hdg hlk
    · cases h2
  · cases h2
/-- the walk from a place on, for so much fuel -/
def m_SimW (l : Launch) (s0 : State) (rom : Nat → Nat) (romC : Nat → mC) (D : va_G) (cA eC : Nat → ClassId) (n : Nat) : Prop :=
  ∀ (y pc : Nat) (L : mL) (S : List Value) (h : mH) (o : mE) (h' : mH), m_exec n y pc L S h = some (o, h') → h'.2.1 ≤ 2000000 →
    ∀ (p : Program) (e : Env) (R : Room) (s : State) (m : MethodId) (args : Array Value) (below : List Frame) (meth : Method) (c : Code) (h0 : mH) (K N : Nat) (H : Heap) (locs : List Loc) (cells slots : Nat) (ls : Array Slot),
      m_Fr p s0 s m args meth c y → m_Rel s0 rom romC D cA eC h0 s.heap → h0.2.1 ≤ h.2.1 → m_Rel s0 rom romC D cA eC h H → m_Loc (m_ad s0.heap.size rom) ls (m_ml y) L → R.frames = m_nf y → R.locals = m_nw y →
      cells + h'.2.1 = K + h.2.1 → slots + h'.2.2 = N + h.2.2 → K ≤ R.cells → N ≤ R.slots → (∀ q ∈ locs, s0.heap.size ≤ q.base) →
      W p l e R s m args below meth c H locs cells slots (m_Fin s0 rom romC D cA eC s below o h' K N) (F0 m pc ls (S.map (m_cv (m_ad s0.heap.size rom))))
theorem m_MX_of {n y : Nat} {As : List Value} {h h' : mH} {o : mE} (hI : ∀ args s, s0.WarmedH s.vm → (∀ q, q < s0.heap.size → s.heap[q]? = s0.heap[q]?) → m_Inv D cA eC args s) (ih : m_SimW l s0 rom romC D cA eC n) (hy : y < 119) (h7 : y ≠ 117) (h1 : ∀ v ∈ As, m_one v = true) (h2 : As.length = m_na y)
    (he : m_exec n y 0 (m_entry y As) [] h = some (o, h')) (hB : h'.2.1 ≤ 2000000) : m_MX l s0 rom romC D cA eC y As h o h' (h'.2.1 - h.2.1) (h'.2.2 - h.2.2) := by
  obtain ⟨b1, b2, b3, b4, b5, b6, b7, b8, b9, b10, b11⟩ := m_meth hy h7
  obtain ⟨hle, -⟩ := m_exec_le _ _ _ _ _ _ _ _ he
  refine MetFree.of_bodyS (code := m_by y) (maxLocals := m_ml y) (ret := m_rt y) (by rw [b2]; exact b6) ?_ ?_
  · intro args s m hp hn
    obtain ⟨meth, c, d1, d2, d3, d4, d5, d6, -, -⟩ := m_cw_spec (atoms_spec (ws := [m_cw y]) hp _ List.mem_cons_self) hn
    exact ⟨meth, c, d1, d2, d3, d4, d5, d6⟩
  · intro p e s m args below meth c s₁ B hml hP _
    obtain ⟨rfl, hW0, hR0⟩ := hP
    have hIs := hI ((As.map (m_cv (m_ad s0.heap.size rom))).toArray) s hW0 hR0.2.2.2.2.2
    have X : Stand p l e { frames := m_nf y, cells := h'.2.1 - h.2.1, slots := h'.2.2 - h.2.2, locals := m_nw y } s m ((As.map (m_cv (m_ad s0.heap.size rom))).toArray) below meth c s₁ [] 0 0 := Stand.of_body B
    obtain ⟨meth', c', d1, d2, d3, d4, d5, d6, d7, d8⟩ := m_cw_spec (atoms_spec (ws := [m_cw y]) B.pre _ List.mem_cons_self) B.named
    cases d1.symm.trans B.method
    cases d2.symm.trans X.code
    have C : m_Fr p s0 s m ((As.map (m_cv (m_ad s0.heap.size rom))).toArray) meth c y :=
      ⟨B.exec, B.bytes, hml, by rw [← b2]; exact findClass_of_methodNamed B.named, hW0, hIs.2.1, (name_of_methodNamed B.named B.method).1, B.returns, B.notSynchronized, d7, hy⟩
    have hh0 : s₁.heap = s.heap := by rw [B.state]; rfl
    have hw := ih y 0 (m_entry y As) [] h o h' he hB p e { frames := m_nf y, cells := h'.2.1 - h.2.1, slots := h'.2.2 - h.2.2, locals := m_nw y } s m ((As.map (m_cv (m_ad s0.heap.size rom))).toArray) below meth c h (h'.2.1 - h.2.1) (h'.2.2 - h.2.2) s.heap [] 0 0 _ C hR0 (Nat.le_refl _) hR0
      (m_entry_loc h1 (by rw [h2]; exact b8)) rfl rfl (by have := hle.1; omega) (by have := hle.2; omega) (Nat.le_refl _) (Nat.le_refl _) (fun q hq => by cases hq)
    rw [lg_entry_eq]
    obtain ⟨t, u1, u2, u3, u4, u5, u6⟩ := hw s₁ hh0 X
    exact ⟨t, _, u1, u2, u3, rfl, u4, u5, u6⟩
set_option maxHeartbeats 8000000 in
theorem m_sim (hr : m_romOk s0 rom romC) (hG : m_Gs s0 rom) (htr : ∀ e, l.admits e → e.platform.stackTraces = false) (hI : ∀ args s, s0.WarmedH s.vm → (∀ q, q < s0.heap.size → s.heap[q]? = s0.heap[q]?) → m_Inv D cA eC args s) : ∀ n, m_SimW l s0 rom romC D cA eC n := by
  intro n
  induction n with
  | zero => intro y pc L S h o h' q; simp [m_exec] at q
  | succ n ih =>
    intro y pc L S h o h' q hB p e R s m args below meth c h0 K N H locs cells slots ls C hR0 hh0 hR hl hF hLo hK hN hKR hNR hlo
    have hIs := hI args s C.2.2.2.2.1 hR0.2.2.2.2.2
    obtain ⟨i1, i2, i3, i4, i5, i6, i7, i8⟩ := hIs
    obtain ⟨hle, hthr⟩ := m_exec_le _ _ _ _ _ _ _ _ q
    rw [m_exec] at q
    cases e1 : m_at y pc with
    | none => rw [e1] at q; simp at q
    | some a =>
      obtain ⟨i, len, tgt⟩ := a
      rw [e1] at q
      dsimp only at q
      cases e2 : m_go y pc i len tgt L S h with
      | some b =>
        obtain ⟨pc', L', S', h1⟩ := b
        rw [e2] at q
        dsimp only at q
        have hle1 := m_go_le e2
        obtain ⟨hle2, -⟩ := m_exec_le _ _ _ _ _ _ _ _ q
        have go : ∀ (H' : Heap) (locs' : List Loc) (ls' : Array Slot) (cells' slots' : Nat), m_Rel s0 rom romC D cA eC h1 H' → m_Loc (m_ad s0.heap.size rom) ls' (m_ml y) L' → (∀ q ∈ locs', s0.heap.size ≤ q.base) → cells' + h.2.1 = cells + h1.2.1 → slots' + h.2.2 = slots + h1.2.2 →
            W p l e R s m args below meth c H' locs' cells' slots' (m_Fin s0 rom romC D cA eC s below o h' K N) (F0 m pc' ls' (S'.map (m_cv (m_ad s0.heap.size rom)))) := by
          intro H' locs' ls' cells' slots' g1 g2 g3 g4 g5
          have := hle1.1; have := hle1.2; have := hle2.1; have := hle2.2
          exact ih y pc' L' S' h1 o h' q hB p e R s m args below meth c h0 K N H' locs' cells' slots' ls' C hR0 (by omega) g1 g2 hF hLo (by omega) (by omega) hKR hNR g3
        have hC1 : cells + h1.2.1 ≤ R.cells + h.2.1 := by have := hle1.1; have := hle2.1; omega
        have hS1 : slots + h1.2.2 ≤ R.slots + h.2.2 := by have := hle1.2; have := hle2.2; omega
        have hB1 : h1.2.1 ≤ 2000000 := Nat.le_trans hle2.1 hB
        unfold m_go at e2
        split at e2
        · rename_i r hstep
          cases e2
          cases hsp : m_spec i with
          | false => exact m_simS C i1 hr hR hl hF hLo e1 hsp hstep hC1 hS1 hB1 hlo go
          | true =>
            unfold m_spec at hsp
            split at hsp
            · rename_i ix
              have hx2 : h1 = h ∧ L' = L := by
                simp only [m_step] at hstep
                split at hstep
                · simp only [Option.some.injEq, Prod.mk.injEq] at hstep
                  exact ⟨hstep.2.2.2.symm, hstep.2.1.symm⟩
                · cases hstep
              obtain ⟨rfl, rfl⟩ := hx2
              exact (m_simG C hG i4 hR e1 hstep (go H locs ls cells slots hR hl hlo rfl rfl)).1
            · cases hsp
        · rename_i hstep
          split at e2
          · rename_i cc x z S1 hbr
            simp only [Option.some.injEq, Prod.mk.injEq] at e2
            obtain ⟨rfl, rfl, rfl, rfl⟩ := e2
            have hg := go H locs ls cells slots hR hl hlo rfl rfl
            refine m_simB C e1 hbr (fun hc => ?_) (fun hc => ?_)
            · rw [m_if_t hc] at hg; exact hg
            · rw [m_if_f hc] at hg; exact hg
          · split at e2
            · rename_i j nn f S1 hal
              by_cases hin : m_in j nn
              · rw [m_if_t hin] at e2
                simp only [Option.some.injEq, Prod.mk.injEq] at e2
                obtain ⟨rfl, rfl, rfl, rfl⟩ := e2
                exact m_simL C i1 hr hR e1 hal hin (go H locs ls cells slots hR hl hlo rfl rfl)
              · rw [m_if_f hin] at e2; cases e2
            · split at e2
              · rename_i j nn a cf S1 has
                by_cases hin : m_in j nn
                · rw [m_if_t hin] at e2
                  simp only [Option.some.injEq, Prod.mk.injEq] at e2
                  obtain ⟨rfl, rfl, rfl, rfl⟩ := e2
                  exact m_simT C i1 hr hR e1 has hin hlo (fun H' locs' g1 g2 => go H' locs' ls cells slots g1 hl g2 rfl rfl)
                · rw [m_if_f hin] at e2; cases e2
              · cases e2
              · exact m_simM C i1 i3 hr hR hl hF hLo e1 e2 hC1 hS1 hB1 hlo go
      | none =>
        rw [e2] at q
        dsimp only at q
        cases e3 : m_inv y i with
        | none =>
          rw [e3] at q
          dsimp only at q
          cases e4 : m_ret y i S with
          | some v =>
            rw [e4] at q
            simp only [Option.some.injEq, Prod.mk.injEq] at q
            obtain ⟨rfl, rfl⟩ := q
            have ek : cells = K := by omega
            have en : slots = N := by omega
            subst ek; subst en
            exact m_simR C hR e1 e4 hlo
          | none =>
            rw [e4] at q
            dsimp only at q
            cases e5 : m_thr y pc i S h with
            | none => rw [e5] at q; cases q
            | some w =>
              obtain ⟨x, h1⟩ := w
              rw [e5] at q
              simp only [Option.some.injEq, Prod.mk.injEq] at q
              obtain ⟨rfl, rfl⟩ := q
              obtain ⟨t1, t2, -⟩ := m_thr_le e5
              have u1 : h1.2.1 = h.2.1 + 1 := by rw [t1]; rfl
              have u2 : h1.2.2 = h.2.2 + 6 := by rw [t1]; rfl
              have ek : cells + 1 = K := by omega
              have en : slots + 6 = N := by omega
              subst ek; subst en
              exact m_simX C (htr e) hR0 hh0 i5 i6 i7 hR hl hF hLo e1 e5 hKR hNR hB hlo
        | some y' =>
          rw [e3] at q
          dsimp only at q
          cases e4 : m_may y y' S h with
          | false => rw [e4] at q; simp at q
          | true =>
            rw [e4] at q
            dsimp only at q
            cases e5 : m_exec n y' 0 (m_entry y' (S.take (m_na y')).reverse) [] h with
            | none => rw [e5] at q; simp at q
            | some w =>
              obtain ⟨o1, h1⟩ := w
              rw [e5] at q
              obtain ⟨hle1, hthr1⟩ := m_exec_le _ _ _ _ _ _ _ _ e5
              have hle2 : m_le h1 h' := by
                cases o1 with
                | inl v => exact (m_exec_le _ _ _ _ _ _ _ _ q).1
                | inr x =>
                  dsimp only at q
                  cases e6 : m_catch y pc h1 x with
                  | none => rw [e6] at q; simp only [Option.some.injEq, Prod.mk.injEq] at q; rw [q.2]; exact m_le_rf _
                  | some t => rw [e6] at q; exact (m_exec_le _ _ _ _ _ _ _ _ q).1
              have hy : y < 119 := C.2.2.2.2.2.2.2.2.2.2
              have hcl : ∃ ix, m_cl (m_o y) ix = some y' := by
                unfold m_inv at e3
                split at e3
                · exact ⟨_, e3⟩
                · exact ⟨_, e3⟩
                · exact ⟨_, e3⟩
                · cases e3
              obtain ⟨ix, hcl⟩ := hcl
              obtain ⟨-, hy', h7'⟩ := m_cl_ok hcl
              have hmay := e4
              simp only [m_may, Bool.and_eq_true, decide_eq_true_eq, List.all_eq_true] at hmay
              have hB1 : h1.2.1 ≤ 2000000 := Nat.le_trans hle2.1 hB
              have hM := m_MX_of hI ih hy' h7' (fun v hv => hmay.2.1 v (List.mem_reverse.mp hv)) (by rw [List.length_reverse, List.length_take, Nat.min_eq_left hmay.1]) e5 hB1
              have z1 := hle1.1; have z2 := hle1.2; have z3 := hle2.1; have z4 := hle2.2
              refine m_simC C i1 hr hR hl hF hLo e1 e3 e4 hM (by omega) (by omega) hlo (fun v hv H' locs' g1 g2 => ?_) (fun x hv T' locs' st XT g1 g2 => ?_)
              · subst hv
                try dsimp only at q
                exact ih y (pc + 3) L _ h1 o h' q hB p e R s m args below meth c h0 K N H' locs' _ _ ls C hR0 (by omega) g1 hl hF hLo (by omega) (by omega) hKR hNR g2
              · subst hv
                try dsimp only at q
                obtain ⟨ci, hci, hcx⟩ := hthr1 x rfl
                obtain ⟨vm', w1, w2, w3⟩ := m_simK (ls := ls) (pc := pc) (st := st) C hr i6 i8 XT g1 hci hcx
                cases e6 : m_catch y pc h1 x with
                | none =>
                  rw [e6] at q
                  simp only [Option.some.injEq, Prod.mk.injEq] at q
                  obtain ⟨rfl, rfl⟩ := q
                  have XT' := XT.noted w1
                  obtain ⟨gg, hfr⟩ := XT'.frames_eq
                  refine ⟨_, w3 e6, XT'.here.running, State.frames_setFrames _ (State.cur_lt_of_frames hfr), (XT'.ends _).1, ⟨locs', ?_, g2⟩, g1⟩
                  have := (XT'.ends (.throwing (m_ad s0.heap.size rom x) :: below)).2
                  have ek : cells + (h1.2.1 - h.2.1) = K := by omega
                  have en : slots + (h1.2.2 - h.2.2) = N := by omega
                  rw [ek, en] at this
                  exact this
                | some t =>
                  rw [e6] at q
                  have hw := ih y t L [.ref x] h1 o h' q hB p e R s m args below meth c h0 K N T'.heap locs' (cells + (h1.2.1 - h.2.1)) (slots + (h1.2.2 - h.2.2)) ls C hR0 (by omega) g1 hl hF hLo (by omega) (by omega) hKR hNR g2
                  obtain ⟨t2, u1, u2⟩ := hw (T'.setVm vm') rfl (XT.noted w1)
                  exact ⟨t2, w2 t e6 t2 u1, u2⟩
end SIM
end
section
/-! THE LAW'S ENTRY: what the Statement gives, as the simulation asks it -/
def m_SX (j : Nat) : Int32 := ([1, -1, 0, 0] : List Int32).getD j 0
def m_SY (j : Nat) : Int32 := ([0, 0, 1, -1] : List Int32).getD j 0
/-- what was there before: the two static arrays, the script -/
def m_romC (L : Nat) (xs : Nat → Int32) (j : Nat) : mC := if j = 0 then mI 4 m_SX else if j = 1 then mI 4 m_SY else if j = 2 then mI L xs else mNo
theorem m_eqi {args : Array Value} {s : State} {tm : Term} {z : Int32} (h : (Cond.eq tm (.int z)).before args s = true) : tm.eval args s none [] s = some (.int z) := by
  cases hv : tm.eval args s none [] s with
  | none => simp [Cond.before, Cond.holds, Cond.value, hv] at h
  | some w =>
    have hz : (Term.int z).eval args s none [] s = some (.int z) := rfl
    simp only [Cond.before, Cond.holds, Cond.value, hv, hz] at h
    cases w <;> simp_all
theorem m_face {w : Cond} {a a' : Array Value} {s0 s : State} (hW : s0.WarmedH s.vm) (hk : w.keepsFace = true) (ho : w.onTables = true) (h : w.before a s0 = true) : w.before a' s = true := by
  have h1 : w.before a (s0.setVm s.vm) = true := Cond.before_shiftedFace (State.Shifted.of_warmed hW) w hk h
  have e := Cond.onTables_vm (A := a) (A' := a') (U := s0) (U' := s) s.vm w ho
  have hU : s.setVm s.vm = s := rfl
  rw [hU] at e
  rw [← e]; exact h1
def m_isLS : Cond → Bool
  | .laysStatic _ _ _ => true
  | _ => false
/-- an exception's atoms: how each comes to a later state -/
def m_okA (a : Cond) : Bool := decide (a ∈ m_tb) || ((decide (a ∈ lw_tbl) && (a.keepsFace && a.onTables)) || ((m_isLS a && decide (a ∈ lw_tbl)) || decide (a ∈ [Cond.isRef (.static "java/lang/Throwable" "UNASSIGNED_STACK" "[Ljava/lang/StackTraceElement;"), Cond.isRef (.static "java/lang/Throwable" "SUPPRESSED_SENTINEL" "Ljava/util/List;")])))
set_option maxRecDepth 100000 in
theorem m_okA7 : (Jvm.Bundle.ownAtoms "EscapeCells" 72 (m_R 7) m_names).all m_okA = true := by decide +kernel
set_option maxRecDepth 100000 in
theorem m_okA8 : (Jvm.Bundle.ownAtoms "EscapeCells" 83 (m_R 8) m_names).all m_okA = true := by decide +kernel
set_option maxRecDepth 100000 in
theorem m_in2 : ∀ w ∈ [Cond.instantiable (m_R 7) 6, Cond.instantiable (m_R 8) 6, Cond.initialized "EscapeCells", Cond.initialized "java/lang/Throwable"], w ∈ m_tb := by decide +kernel
set_option maxRecDepth 100000 in
theorem m_in3 : ∀ w ∈ [Cond.arrayOver (.array .int), Cond.fieldLinkNest "EscapeCells$Storey" 59 "EscapeCells" "STEP_X" "[I" "EscapeCells", Cond.fieldLinkNest "EscapeCells$Storey" 62 "EscapeCells" "STEP_Y" "[I" "EscapeCells", Cond.laysStatic "EscapeCells" "STEP_X" "[I", Cond.laysStatic "EscapeCells" "STEP_Y" "[I", Cond.laysStatic "java/lang/Throwable" "UNASSIGNED_STACK" "[Ljava/lang/StackTraceElement;", Cond.laysStatic "java/lang/Throwable" "SUPPRESSED_SENTINEL" "Ljava/util/List;", Cond.castable (m_R 7) (m_R 7), Cond.castable (m_R 8) (m_R 8)], w ∈ lw_tbl := by decide +kernel
/-- the texts -/
def m_txs : List (Nat × String) := [(70, "no such cell"), (81, "a person is in the cell"), (101, "no such cell or rate"), (103, "the cell is a wall or a person is in it"), (111, "there were as many exits as there may be"), (122, "the cell is a wall or an exit"), (127, "no such cell or second"), (132, "no such cell, pace or delay"), (137, "someone is in the cell, or there are too many"), (149, "no such person or exit"), (158, "no such cell or exit"), (169, "no such person or question"), (171, "there was no run"), (185, "no such person, second or axis"), (199, "no such second")]
set_option maxRecDepth 100000 in
theorem m_txs_in : ∀ q ∈ m_txs, Cond.stringRef "EscapeCells" q.1 q.2 ∈ lw_tbl := by decide +kernel
theorem m_txs_all : ∀ q ∈ m_lcs.getD 5 [], (m_txs.map Prod.fst).contains q.1 = true := by decide +kernel
set_option maxRecDepth 100000 in
theorem m_nar : ∀ w ∈ [Cond.arrayOf (.static "EscapeCells" "STEP_X" "[I") .int, Cond.eq (.length (.static "EscapeCells" "STEP_X" "[I")) (.int 4), Cond.eq (.elem (.static "EscapeCells" "STEP_X" "[I") (.int 0)) (.int 1), Cond.eq (.elem (.static "EscapeCells" "STEP_X" "[I") (.int 1)) (.int (-1)), Cond.eq (.elem (.static "EscapeCells" "STEP_X" "[I") (.int 2)) (.int 0), Cond.eq (.elem (.static "EscapeCells" "STEP_X" "[I") (.int 3)) (.int 0),
    Cond.arrayOf (.static "EscapeCells" "STEP_Y" "[I") .int, Cond.eq (.length (.static "EscapeCells" "STEP_Y" "[I")) (.int 4), Cond.eq (.elem (.static "EscapeCells" "STEP_Y" "[I") (.int 0)) (.int 0), Cond.eq (.elem (.static "EscapeCells" "STEP_Y" "[I") (.int 1)) (.int 0), Cond.eq (.elem (.static "EscapeCells" "STEP_Y" "[I") (.int 2)) (.int 1), Cond.eq (.elem (.static "EscapeCells" "STEP_Y" "[I") (.int 3)) (.int (-1)),
    Cond.isRef (.static "java/lang/Throwable" "UNASSIGNED_STACK" "[Ljava/lang/StackTraceElement;"), Cond.isRef (.static "java/lang/Throwable" "SUPPRESSED_SENTINEL" "Ljava/util/List;"), Cond.not (.castable (m_R 8) (m_R 7)), Cond.not (.castable (m_R 7) (m_R 8))], w ∈ flatC (Jvm.Cond.and given_1 narrow_1) := by decide +kernel
theorem m_ncast {C T : String} {args : Array Value} {s : State} {c t : ClassId} (hc : s.vm.findClass C = some c) (ht : s.vm.findClass T = some t) (h : (Cond.not (.castable C T)).before args s = true) : s.vm.assignable c t = false := by
  simp only [Cond.before, Cond.holds, Cond.value, hc, ht] at h
  cases q : s.vm.assignable c t with
  | false => rfl
  | true => simp [q] at h
set_option maxHeartbeats 4000000 in
theorem m_setup {s0 : State} {b L : Nat} {xs : Nat → Int32} (hL : L ≤ 2562) (hts : ∀ w ∈ lw_tbl, w.before #[Value.ref b] s0 = true) (hX : va_X b L xs s0 s0.heap) (hbl : b < s0.heap.size) (hgv : (Jvm.Cond.and given_1 narrow_1).before #[Value.ref b] s0 = true) :
    ∃ (rom : Nat → Nat) (D : va_G) (cA eC : Nat → ClassId), rom 2 = b ∧ m_romOk s0 rom (m_romC L xs) ∧ m_Gs s0 rom ∧ (∀ args s, s0.WarmedH s.vm → (∀ q, q < s0.heap.size → s.heap[q]? = s0.heap[q]?) → m_Inv D cA eC args s) := by
  have hn : ∀ w ∈ flatC (Jvm.Cond.and given_1 narrow_1), w.before #[Value.ref b] s0 = true := flat_of_before _ hgv
  have htb : ∀ w ∈ m_tb, w.before #[Value.ref b] s0 = true := fun w hw => hts w (m_tb_in hw).1
  have hA : ∀ a : Nat, a < s0.heap.size → ¬ (fun q => s0.heap.size ≤ q) a := fun a h => Nat.not_le.mpr h
  -- the static arrays
  obtain ⟨t0, ht0, hT0⟩ := va_Tof (N := 4) (f := fun j => .int (m_SX j)) (A := fun q => s0.heap.size ≤ q) (by decide) (hn _ (m_nar _ (by simp : Cond.arrayOf (.static "EscapeCells" "STEP_X" "[I") .int ∈ _))) (m_eqi (hn _ (m_nar _ (by simp : Cond.eq (.length (.static "EscapeCells" "STEP_X" "[I")) (.int 4) ∈ _))))
    (fun j hj => by
      match j, hj with
      | 0, _ => exact m_eqi (hn _ (m_nar _ (by simp : Cond.eq (.elem (.static "EscapeCells" "STEP_X" "[I") (.int 0)) (.int 1) ∈ _)))
      | 1, _ => exact m_eqi (hn _ (m_nar _ (by simp : Cond.eq (.elem (.static "EscapeCells" "STEP_X" "[I") (.int 1)) (.int (-1)) ∈ _)))
      | 2, _ => exact m_eqi (hn _ (m_nar _ (by simp : Cond.eq (.elem (.static "EscapeCells" "STEP_X" "[I") (.int 2)) (.int 0) ∈ _)))
      | 3, _ => exact m_eqi (hn _ (m_nar _ (by simp : Cond.eq (.elem (.static "EscapeCells" "STEP_X" "[I") (.int 3)) (.int 0) ∈ _)))) hA
  obtain ⟨t1, ht1, hT1⟩ := va_Tof (N := 4) (f := fun j => .int (m_SY j)) (A := fun q => s0.heap.size ≤ q) (by decide) (hn _ (m_nar _ (by simp : Cond.arrayOf (.static "EscapeCells" "STEP_Y" "[I") .int ∈ _))) (m_eqi (hn _ (m_nar _ (by simp : Cond.eq (.length (.static "EscapeCells" "STEP_Y" "[I")) (.int 4) ∈ _))))
    (fun j hj => by
      match j, hj with
      | 0, _ => exact m_eqi (hn _ (m_nar _ (by simp : Cond.eq (.elem (.static "EscapeCells" "STEP_Y" "[I") (.int 0)) (.int 0) ∈ _)))
      | 1, _ => exact m_eqi (hn _ (m_nar _ (by simp : Cond.eq (.elem (.static "EscapeCells" "STEP_Y" "[I") (.int 1)) (.int 0) ∈ _)))
      | 2, _ => exact m_eqi (hn _ (m_nar _ (by simp : Cond.eq (.elem (.static "EscapeCells" "STEP_Y" "[I") (.int 2)) (.int 1) ∈ _)))
      | 3, _ => exact m_eqi (hn _ (m_nar _ (by simp : Cond.eq (.elem (.static "EscapeCells" "STEP_Y" "[I") (.int 3)) (.int (-1)) ∈ _)))) hA
  -- the classes of arrays
  obtain ⟨c0, k0, p0, f0, g0, d0⟩ := Cond.arrayClass_spec (htb _ (m_one_in _ (by simp : Cond.arrayClass .int ∈ _)))
  obtain ⟨c1, k1, p1, f1, g1, d1⟩ := Cond.arrayClass_spec (htb _ (m_one_in _ (by simp : Cond.arrayClass .boolean ∈ _)))
  obtain ⟨c2, k2, p2, f2, g2, d2⟩ := Cond.arrayClass_spec (htb _ (m_one_in _ (by simp : Cond.arrayClass .long ∈ _)))
  have hov : (Cond.arrayOver (.array .int)).before #[Value.ref b] s0 = true := hts _ (m_in3 _ (by simp))
  obtain ⟨p3, c3, k3, f3a, -, g3, d3, f3⟩ := arrayOverA_spec hov
  -- the classes
  have hcl : ∀ k : Nat, ∃ (cC : ClassId) (iS : Nat → Nat), ∀ q : vw_C, m_cls[k]? = some q → u_Kn s0 q.1 q.2.1 q.2.2 cC iS := by
    intro k
    cases hq : m_cls[k]? with
    | none => exact ⟨0, fun _ => 0, fun q h => by cases h⟩
    | some q =>
      obtain ⟨C, T, N⟩ := q
      obtain ⟨z1, z2, z3, z4, z5, z6, z7, z8, z9, z10⟩ := m_cls_ok hq
      obtain ⟨cC, iS, hk⟩ := u_known htb z1 (htb _ z4)
      exact ⟨cC, iS, fun q h => by cases h; exact hk⟩
  -- the exceptions
  obtain ⟨e7, k7, fe7, -⟩ := Cond.instantiable_spec (htb _ (m_in2 _ (by simp : Cond.instantiable (m_R 7) 6 ∈ _)))
  obtain ⟨e8, k8, fe8, -⟩ := Cond.instantiable_spec (htb _ (m_in2 _ (by simp : Cond.instantiable (m_R 8) 6 ∈ _)))
  have hlsX := hts _ (m_in3 _ (by simp : Cond.laysStatic "EscapeCells" "STEP_X" "[I" ∈ _))
  have hlsY := hts _ (m_in3 _ (by simp : Cond.laysStatic "EscapeCells" "STEP_Y" "[I" ∈ _))
  have hini := htb _ (m_in2 _ (by simp : Cond.initialized "EscapeCells" ∈ _))
  refine ⟨fun j => if j = 0 then t0 else if j = 1 then t1 else b, (fun k => (hcl k).choose, fun k => (hcl k).choose_spec.choose), fun k => if k = 0 then c0 else if k = 1 then c1 else if k = 2 then c2 else c3, fun k => if k = 7 then e7 else e8, rfl, ?_, ?_, ?_⟩
  · intro j
    unfold m_romC
    by_cases j0 : j = 0
    · subst j0
      refine Or.inl ⟨4, m_SX, rfl, by decide, ?_, hT0⟩
      obtain ⟨cell, y1, -⟩ := hT0
      exact (Array.getElem?_eq_some_iff.mp y1).1
    · by_cases j1 : j = 1
      · subst j1
        refine Or.inl ⟨4, m_SY, rfl, by decide, ?_, hT1⟩
        obtain ⟨cell, y1, -⟩ := hT1
        exact (Array.getElem?_eq_some_iff.mp y1).1
      · by_cases j2 : j = 2
        · subst j2
          obtain ⟨scr, y1, y2, y3, y4, y5⟩ := hX
          exact Or.inl ⟨L, xs, rfl, by omega, hbl, scr, y1, y2, y3, by omega, by rw [y4], y5, hA b hbl⟩
        · right
          rw [if_neg j0, if_neg j1, if_neg j2]
  · intro j hj
    match j, hj with
    | 0, _ => exact va_Zof hlsX hini ht0 hA
    | 1, _ => exact va_Zof hlsY hini ht1 hA
  · intro args s hW ho
    have hal := hW.alike
    have hwt : ∀ w ∈ m_tb, w.before args s = true := fun w hw => word_at hW (m_tb_in hw).2 (htb w hw)
    have hf7 : s.vm.findClass (m_R 7) = some e7 := by rw [hal.findClass]; exact fe7
    have hf8 : s.vm.findClass (m_R 8) = some e8 := by rw [hal.findClass]; exact fe8
    refine ⟨va_K.moved hal ⟨fun k q hq => (hcl k).choose_spec.choose_spec q hq, fun k q hq => ?_⟩, hwt, over_moved hal hov, ?_, ?_, ?_, ?_, ?_⟩
    · match k, hq with
      | 0, hq => cases hq; exact ⟨fun n z => ⟨fun k h => (by cases h), k0, g0, p0, d0⟩, f0⟩
      | 1, hq => cases hq; exact ⟨fun n z => ⟨fun k h => (by cases h), k1, g1, p1, d1⟩, f1⟩
      | 2, hq => cases hq; exact ⟨fun n z => ⟨fun k h => (by cases h), k2, g2, p2, d2⟩, f2⟩
      | 3, hq => cases hq; exact ⟨fun n z => ⟨fun k h => (by cases h), k3, g3, p3, d3⟩, f3⟩
      | k + 4, hq => simp [m_at0] at hq
    · intro q hq
      simp only [List.mem_cons, List.not_mem_nil, or_false] at hq
      rcases hq with rfl | rfl
      · exact (va_Nw.warmF hW (va_Nw.of rfl (hts _ (m_in3 _ (by simp))))).use rfl
      · exact (va_Nw.warmF hW (va_Nw.of rfl (hts _ (m_in3 _ (by simp))))).use rfl
    · intro ci ic hci a ha
      have hok : m_okA a = true := by
        rcases hci with ⟨rfl, rfl⟩ | ⟨rfl, rfl⟩
        · exact List.all_eq_true.mp m_okA7 a ha
        · exact List.all_eq_true.mp m_okA8 a ha
      simp only [m_okA, Bool.or_eq_true, Bool.and_eq_true, decide_eq_true_eq] at hok
      rcases hok with q | ⟨q1, q2, q3⟩ | ⟨q1, q2⟩ | q
      · exact hwt a q
      · exact m_face hW q2 q3 (hts a q1)
      · have h0 := hts a q2
        unfold m_isLS at q1
        split at q1
        · exact m_laysStatic_moved hal ho h0
        · cases q1
      · simp only [List.mem_cons, List.not_mem_nil, or_false] at q
        have key : ∀ C n d : String, (Cond.laysStatic C n d).before #[Value.ref b] s0 = true → (Cond.isRef (.static C n d)).before #[Value.ref b] s0 = true → (Cond.isRef (.static C n d)).before args s = true := by
          intro C n d hl hi
          cases hv : (Term.static C n d).eval #[Value.ref b] s0 none [] s0 with
          | none => simp [Cond.before, Cond.holds, Cond.value, hv] at hi
          | some w =>
            have hv2 := m_static_moved (args' := args) hal ho hl hv
            simp only [Cond.before, Cond.holds, Cond.value, hv] at hi
            simp only [Cond.before, Cond.holds, Cond.value, hv2]
            exact hi
        rcases q with rfl | rfl
        · exact key _ _ _ (hts _ (m_in3 _ (by simp))) (hn _ (m_nar _ (by simp)))
        · exact key _ _ _ (hts _ (m_in3 _ (by simp))) (hn _ (m_nar _ (by simp)))
    · intro ci hci
      rcases hci with rfl | rfl
      · exact hf7
      · exact hf8
    · intro k v hk
      have hm := m_txs_all _ (m_lookup_mem hk)
      have hm2 : k ∈ m_txs.map Prod.fst := by simpa using hm
      obtain ⟨q, hq, e⟩ := List.mem_map.mp hm2
      subst e
      have hs0 := hts _ (m_txs_in q hq)
      have hcur : ∃ cur, s0.vm.findClass "EscapeCells" = some cur := by
        have h1 := hs0
        simp only [Cond.before, Cond.holds, Cond.value] at h1
        cases hc : s0.vm.findClass "EscapeCells" with
        | none => simp [hc] at h1
        | some cur => exact ⟨cur, rfl⟩
      obtain ⟨cur, hcur⟩ := hcur
      obtain ⟨kk, cf, i, a, -, -, -, -, -, hev⟩ := Cond.stringRef_spec hcur hs0
      exact ⟨q.2, a, (vk_R.of hs0 hev).warm hW⟩
    · have h77 : s.vm.assignable e7 e7 = true := by
        obtain ⟨x1, x2, y1, y2, y3⟩ := Cond.castable_spec (m_face (a' := args) hW rfl rfl (hts _ (m_in3 _ (by simp : Cond.castable (m_R 7) (m_R 7) ∈ _))))
        cases hf7.symm.trans y1
        cases hf7.symm.trans y2
        exact y3
      have h88 : s.vm.assignable e8 e8 = true := by
        obtain ⟨x1, x2, y1, y2, y3⟩ := Cond.castable_spec (m_face (a' := args) hW rfl rfl (hts _ (m_in3 _ (by simp : Cond.castable (m_R 8) (m_R 8) ∈ _))))
        cases hf8.symm.trans y1
        cases hf8.symm.trans y2
        exact y3
      have h78 : s.vm.assignable e7 e8 = false := by
        rw [hal.assignable]; exact m_ncast fe7 fe8 (hn _ (m_nar _ (by simp)))
      have h87 : s.vm.assignable e8 e7 = false := by
        rw [hal.assignable]; exact m_ncast fe8 fe7 (hn _ (m_nar _ (by simp)))
      intro ci cj hci hcj
      rcases hci with rfl | rfl <;> rcases hcj with rfl | rfl
      · exact h77
      · exact h78
      · exact h87
      · exact h88
end
section
/-! THE SHAPE OF THE HEAP behind the three constructions of the law: cells 0 to 168 the object x and all its own, 169 to 192 the reference, 193 the law's long[]. Written by wip/whole/gen_shape.py -/
/-- 1: an array of ints, 2: of booleans, 0: another cell -/
def kd (k : Nat) : Nat := (bif Nat.blt k 97 then (bif Nat.blt k 48 then (bif Nat.blt k 24 then (bif Nat.blt k 12 then (bif Nat.blt k 6 then (bif Nat.blt k 3 then (bif Nat.blt k 1 then 0 else (bif Nat.blt k 2 then 0 else 1)) else 1) else (bif Nat.blt k 9 then 1 else (bif Nat.blt k 10 then 1 else 0))) else (bif Nat.blt k 18 then 1 else (bif Nat.blt k 21 then 1 else (bif Nat.blt k 22 then 2 else (bif Nat.blt k 23 then 1 else 0))))) else (bif Nat.blt k 36 then (bif Nat.blt k 30 then (bif Nat.blt k 27 then 1 else (bif Nat.blt k 28 then 1 else (bif Nat.blt k 29 then 1 else 0))) else 1) else (bif Nat.blt k 42 then (bif Nat.blt k 39 then (bif Nat.blt k 37 then 1 else (bif Nat.blt k 38 then 1 else 0)) else 1) else 1))) else 1) else (bif Nat.blt k 145 then (bif Nat.blt k 121 then (bif Nat.blt k 109 then (bif Nat.blt k 103 then (bif Nat.blt k 100 then (bif Nat.blt k 98 then 1 else (bif Nat.blt k 99 then 1 else 0)) else 1) else 1) else 1) else 1) else (bif Nat.blt k 169 then (bif Nat.blt k 157 then 1 else (bif Nat.blt k 163 then 1 else (bif Nat.blt k 166 then (bif Nat.blt k 164 then 1 else (bif Nat.blt k 165 then 0 else 1)) else 1))) else (bif Nat.blt k 181 then (bif Nat.blt k 175 then (bif Nat.blt k 172 then (bif Nat.blt k 170 then 0 else (bif Nat.blt k 171 then 2 else 1)) else 1) else 1) else (bif Nat.blt k 187 then 1 else (bif Nat.blt k 190 then 1 else (bif Nat.blt k 192 then (bif Nat.blt k 191 then 1 else 2) else (bif Nat.blt k 193 then 1 else 0))))))))
/-- which length -/
def lc (k : Nat) : Nat := (bif Nat.blt k 97 then (bif Nat.blt k 48 then (bif Nat.blt k 24 then (bif Nat.blt k 12 then (bif Nat.blt k 6 then 0 else (bif Nat.blt k 9 then (bif Nat.blt k 7 then 1 else 0) else (bif Nat.blt k 10 then 2 else 0))) else (bif Nat.blt k 18 then 0 else (bif Nat.blt k 21 then 0 else (bif Nat.blt k 22 then 3 else 0)))) else (bif Nat.blt k 36 then (bif Nat.blt k 30 then (bif Nat.blt k 27 then 4 else (bif Nat.blt k 28 then 4 else 0)) else (bif Nat.blt k 33 then 4 else (bif Nat.blt k 34 then 4 else (bif Nat.blt k 35 then 0 else 4)))) else (bif Nat.blt k 42 then (bif Nat.blt k 39 then (bif Nat.blt k 37 then 4 else (bif Nat.blt k 38 then 4 else 0)) else 0) else 0))) else 0) else (bif Nat.blt k 145 then 0 else (bif Nat.blt k 169 then (bif Nat.blt k 157 then 0 else (bif Nat.blt k 163 then 0 else (bif Nat.blt k 166 then (bif Nat.blt k 164 then 4 else (bif Nat.blt k 165 then 0 else 5)) else (bif Nat.blt k 167 then 0 else (bif Nat.blt k 168 then 6 else 7))))) else (bif Nat.blt k 181 then (bif Nat.blt k 175 then (bif Nat.blt k 172 then (bif Nat.blt k 170 then 0 else 8) else (bif Nat.blt k 173 then 8 else (bif Nat.blt k 174 then 8 else 1))) else (bif Nat.blt k 178 then 4 else (bif Nat.blt k 179 then 4 else (bif Nat.blt k 180 then 9 else 8)))) else (bif Nat.blt k 187 then (bif Nat.blt k 184 then 4 else (bif Nat.blt k 185 then 4 else 10)) else (bif Nat.blt k 190 then (bif Nat.blt k 188 then 4 else 8) else (bif Nat.blt k 192 then (bif Nat.blt k 191 then 8 else 4) else (bif Nat.blt k 193 then 7 else 0))))))))
def lv (n c : Nat) : Nat := match c with
  | 0 => n
  | 1 => 8
  | 2 => 4 * n
  | 3 => 9
  | 4 => 60
  | 5 => 12
  | 6 => 156
  | 7 => 4096
  | 8 => 576
  | 9 => 5184
  | _ => 36000
/-- the length of an array, n: how many cells the storey has -/
def ln (n k : Nat) : Nat := lv n (lc k)
/-- the contents: of each cell each place -/
abbrev Ct : Type := Nat → Nat → Int32
/-- the objects, the arrays of rows, the law's array -/
def oth (w h : Nat) (C : Ct) (J : Nat → Int64) (k : Nat) : mC := match k with
  | 0 => mO 5 [.ref 1, .ref 10, .ref 23, .ref 29, .ref 164, .int (C 0 5)]
  | 1 => mO 4 [.int (nI w), .int (nI h), .int (nI (w * h)), .ref 2, .ref 3, .ref 4, .ref 5, .ref 6, .ref 7, .ref 8, .ref 9, .int (C 1 11)]
  | 10 => mO 1 [.ref 1, .ref 11, .ref 21, .ref 22]
  | 11 => mG 9 (fun i => 12 + i)
  | 23 => mO 2 [.ref 24, .ref 25, .ref 26, .ref 27, .ref 28, .int (C 23 5)]
  | 29 => mO 0 [.ref 1, .ref 10, .ref 23, .ref 30, .ref 31, .ref 32, .ref 33, .ref 34, .int (C 29 8), .ref 35, .ref 36, .ref 37, .ref 38, .ref 99, .ref 160, .ref 161, .ref 162, .ref 163, .int (C 29 18)]
  | 38 => mG 60 (fun i => 39 + i)
  | 99 => mG 60 (fun i => 100 + i)
  | 164 => mO 3 [.ref 1, .ref 165, .ref 166, .ref 167, .ref 168]
  | 169 => mO 6 [.int (C 169 0), .int (nI w), .int (nI h), .ref 170, .ref 171, .ref 172, .ref 173, .int (C 169 7), .ref 174, .int (C 169 9), .ref 175, .ref 176, .ref 177, .ref 178, .int (C 169 14), .ref 179, .ref 180, .int (C 169 17), .int (C 169 18), .ref 181, .ref 182, .ref 183, .ref 184, .ref 185, .ref 186, .ref 187, .ref 188, .ref 189, .ref 190, .ref 191, .ref 192]
  | 193 => mJ 1 J
  | _ => mNo
def sh (w h : Nat) (C : Ct) (J : Nat → Int64) (k : Nat) : mC := match kd k with
  | 1 => .inl (0, ln (w * h) k, C k)
  | 2 => .inl (1, ln (w * h) k, C k)
  | _ => oth w h C J k
/-- what lies beyond: the exceptions' objects, how many, the slots in use -/
abbrev Ex : Type := (Nat → mC) × Nat × Nat
/-- what does not change: width, height, the script's length, the script -/
abbrev Fx : Type := Nat × Nat × Nat × (Nat → Int32)
/-- THE HEAP -/
def hf (F : Fx) (C : Ct) (J : Nat → Int64) (G : Ex) (k : Nat) : mC := bif Nat.blt k 194 then sh F.1 F.2.1 C J k else bif Nat.blt k 1000000000 then G.1 k else m_romC F.2.2.1 F.2.2.2 (k - 1000000000)
def hp (F : Fx) (C : Ct) (J : Nat → Int64) (G : Ex) : mH := (hf F C J G, 194 + G.2.1, G.2.2)
theorem hf_lt {F : Fx} {C : Ct} {J : Nat → Int64} {G : Ex} {k : Nat} (h : k < 194) : hf F C J G k = sh F.1 F.2.1 C J k := by
  have : Nat.blt k 194 = true := by rw [Nat.blt_eq]; exact h
  rw [hf, this]; rfl
theorem hf_ge {F : Fx} {C C' : Ct} {J J' : Nat → Int64} {G : Ex} {k : Nat} (h : ¬ k < 194) : hf F C J G k = hf F C' J' G k := by
  have : Nat.blt k 194 = false := by rw [Bool.eq_false_iff]; intro e; rw [Nat.blt_eq] at e; exact h e
  rw [hf, hf, this, cond_false, cond_false]
theorem set_ext {h h' : mH} {k : Nat} {c : mC} (h1 : h'.2 = h.2) (h2 : h'.1 k = c) (h3 : ∀ j, j ≠ k → h'.1 j = h.1 j) : m_set h k c = h' := by
  unfold m_set
  refine Prod.ext (funext fun j => ?_) ?_
  · by_cases e : j = k
    · subst e; simp only [if_true]; exact h2.symm
    · simp only [if_neg e]; exact (h3 j e).symm
  · exact h1.symm
/-- a place of a cell is written -/
def st (C : Ct) (k i : Nat) (v : Int32) : Ct := fun k' => if k' = k then upd (C k) i v else C k'
theorem st_s {C : Ct} {k i : Nat} {v : Int32} : st C k i v k i = v := by simp [st, upd]
theorem st_i {C : Ct} {k i j : Nat} {v : Int32} (h : j ≠ i) : st C k i v k j = C k j := by simp [st, upd, h]
theorem st_k {C : Ct} {k i j k' : Nat} {v : Int32} (h : k' ≠ k) : st C k i v k' j = C k' j := by simp [st, h]
theorem st_f {C : Ct} {k i k' : Nat} {v : Int32} (h : k' ≠ k) : st C k i v k' = C k' := by simp [st, h]
theorem st_kk {C : Ct} {k i : Nat} {v : Int32} : st C k i v k = upd (C k) i v := by simp [st]
theorem kd_lt {k : Nat} (h : kd k = 1 ∨ kd k = 2) : k < 194 := by
  rcases Nat.lt_or_ge k 194 with q | q
  · exact q
  · exfalso
    have hb : ∀ m, m ≤ 194 → Nat.blt k m = false := fun m hm => by
      rw [Bool.eq_false_iff]; intro e; rw [Nat.blt_eq] at e; omega
    have e : kd k = 0 := by
      unfold kd
      simp [hb]
    rw [e] at h
    omega
theorem oth_st {w h k i j : Nat} {C : Ct} {J : Nat → Int64} {v : Int32} (hk : kd k = 1 ∨ kd k = 2) : oth w h (st C k i v) J j = oth w h C J j := by
  have h0 : k ≠ 0 ∧ k ≠ 1 ∧ k ≠ 23 ∧ k ≠ 29 ∧ k ≠ 169 := by
    refine ⟨?_, ?_, ?_, ?_, ?_⟩ <;> (rintro rfl; revert hk; decide)
  unfold oth
  split <;> simp [st, Ne.symm h0.1, Ne.symm h0.2.1, Ne.symm h0.2.2.1, Ne.symm h0.2.2.2.1, Ne.symm h0.2.2.2.2]
theorem sh_st {w h k i j : Nat} {C : Ct} {J : Nat → Int64} {v : Int32} (hk : kd k = 1 ∨ kd k = 2) (hj : j ≠ k) : sh w h (st C k i v) J j = sh w h C J j := by
  unfold sh
  rw [oth_st hk, st_f hj]
/-- an array's place is written -/
theorem hp_st {F : Fx} {C : Ct} {J : Nat → Int64} {G : Ex} {k i n : Nat} {v : Int32} (hk : kd k = 1) (hn : n = ln (F.1 * F.2.1) k) : m_set (hp F C J G) k (mI n (upd (C k) i v)) = hp F (st C k i v) J G := by
  have hlt := kd_lt (Or.inl hk)
  refine set_ext rfl ?_ (fun j hj => ?_)
  · show hf F (st C k i v) J G k = _
    rw [hf_lt hlt, sh, hk, st_kk, hn]
    rfl
  · show hf F (st C k i v) J G j = hf F C J G j
    by_cases q : j < 194
    · rw [hf_lt q, hf_lt q, sh_st (Or.inl hk) hj]
    · exact hf_ge q
theorem hp_stz {F : Fx} {C : Ct} {J : Nat → Int64} {G : Ex} {k i n : Nat} {v : Int32} (hk : kd k = 2) (hn : n = ln (F.1 * F.2.1) k) : m_set (hp F C J G) k (mZ n (upd (C k) i v)) = hp F (st C k i v) J G := by
  have hlt := kd_lt (Or.inr hk)
  refine set_ext rfl ?_ (fun j hj => ?_)
  · show hf F (st C k i v) J G k = _
    rw [hf_lt hlt, sh, hk, st_kk, hn]
    rfl
  · show hf F (st C k i v) J G j = hf F C J G j
    by_cases q : j < 194
    · rw [hf_lt q, hf_lt q, sh_st (Or.inr hk) hj]
    · exact hf_ge q
theorem hp_f0_5 {F : Fx} {C : Ct} {J : Nat → Int64} {G : Ex} {v : Int32} {c : mC} (hc : c = oth F.1 F.2.1 (st C 0 5 v) J 0) : m_set (hp F C J G) 0 c = hp F (st C 0 5 v) J G := by
  refine set_ext rfl ?_ (fun q hq => ?_)
  · rw [hc]; rfl
  · show hf F (st C 0 5 v) J G q = hf F C J G q
    by_cases h : q < 194
    · rw [hf_lt h, hf_lt h]
      unfold sh
      rw [st_f hq]
      have : oth F.1 F.2.1 (st C 0 5 v) J q = oth F.1 F.2.1 C J q := by
        unfold oth
        split <;> first | rfl | (exact absurd rfl hq) | simp [st, upd]
      rw [this]
    · exact hf_ge h
theorem hp_f1_11 {F : Fx} {C : Ct} {J : Nat → Int64} {G : Ex} {v : Int32} {c : mC} (hc : c = oth F.1 F.2.1 (st C 1 11 v) J 1) : m_set (hp F C J G) 1 c = hp F (st C 1 11 v) J G := by
  refine set_ext rfl ?_ (fun q hq => ?_)
  · rw [hc]; rfl
  · show hf F (st C 1 11 v) J G q = hf F C J G q
    by_cases h : q < 194
    · rw [hf_lt h, hf_lt h]
      unfold sh
      rw [st_f hq]
      have : oth F.1 F.2.1 (st C 1 11 v) J q = oth F.1 F.2.1 C J q := by
        unfold oth
        split <;> first | rfl | (exact absurd rfl hq) | simp [st, upd]
      rw [this]
    · exact hf_ge h
theorem hp_f23_5 {F : Fx} {C : Ct} {J : Nat → Int64} {G : Ex} {v : Int32} {c : mC} (hc : c = oth F.1 F.2.1 (st C 23 5 v) J 23) : m_set (hp F C J G) 23 c = hp F (st C 23 5 v) J G := by
  refine set_ext rfl ?_ (fun q hq => ?_)
  · rw [hc]; rfl
  · show hf F (st C 23 5 v) J G q = hf F C J G q
    by_cases h : q < 194
    · rw [hf_lt h, hf_lt h]
      unfold sh
      rw [st_f hq]
      have : oth F.1 F.2.1 (st C 23 5 v) J q = oth F.1 F.2.1 C J q := by
        unfold oth
        split <;> first | rfl | (exact absurd rfl hq) | simp [st, upd]
      rw [this]
    · exact hf_ge h
theorem hp_f29_8 {F : Fx} {C : Ct} {J : Nat → Int64} {G : Ex} {v : Int32} {c : mC} (hc : c = oth F.1 F.2.1 (st C 29 8 v) J 29) : m_set (hp F C J G) 29 c = hp F (st C 29 8 v) J G := by
  refine set_ext rfl ?_ (fun q hq => ?_)
  · rw [hc]; rfl
  · show hf F (st C 29 8 v) J G q = hf F C J G q
    by_cases h : q < 194
    · rw [hf_lt h, hf_lt h]
      unfold sh
      rw [st_f hq]
      have : oth F.1 F.2.1 (st C 29 8 v) J q = oth F.1 F.2.1 C J q := by
        unfold oth
        split <;> first | rfl | (exact absurd rfl hq) | simp [st, upd]
      rw [this]
    · exact hf_ge h
theorem hp_f29_18 {F : Fx} {C : Ct} {J : Nat → Int64} {G : Ex} {v : Int32} {c : mC} (hc : c = oth F.1 F.2.1 (st C 29 18 v) J 29) : m_set (hp F C J G) 29 c = hp F (st C 29 18 v) J G := by
  refine set_ext rfl ?_ (fun q hq => ?_)
  · rw [hc]; rfl
  · show hf F (st C 29 18 v) J G q = hf F C J G q
    by_cases h : q < 194
    · rw [hf_lt h, hf_lt h]
      unfold sh
      rw [st_f hq]
      have : oth F.1 F.2.1 (st C 29 18 v) J q = oth F.1 F.2.1 C J q := by
        unfold oth
        split <;> first | rfl | (exact absurd rfl hq) | simp [st, upd]
      rw [this]
    · exact hf_ge h
theorem hp_f169_0 {F : Fx} {C : Ct} {J : Nat → Int64} {G : Ex} {v : Int32} {c : mC} (hc : c = oth F.1 F.2.1 (st C 169 0 v) J 169) : m_set (hp F C J G) 169 c = hp F (st C 169 0 v) J G := by
  refine set_ext rfl ?_ (fun q hq => ?_)
  · rw [hc]; rfl
  · show hf F (st C 169 0 v) J G q = hf F C J G q
    by_cases h : q < 194
    · rw [hf_lt h, hf_lt h]
      unfold sh
      rw [st_f hq]
      have : oth F.1 F.2.1 (st C 169 0 v) J q = oth F.1 F.2.1 C J q := by
        unfold oth
        split <;> first | rfl | (exact absurd rfl hq) | simp [st, upd]
      rw [this]
    · exact hf_ge h
theorem hp_f169_7 {F : Fx} {C : Ct} {J : Nat → Int64} {G : Ex} {v : Int32} {c : mC} (hc : c = oth F.1 F.2.1 (st C 169 7 v) J 169) : m_set (hp F C J G) 169 c = hp F (st C 169 7 v) J G := by
  refine set_ext rfl ?_ (fun q hq => ?_)
  · rw [hc]; rfl
  · show hf F (st C 169 7 v) J G q = hf F C J G q
    by_cases h : q < 194
    · rw [hf_lt h, hf_lt h]
      unfold sh
      rw [st_f hq]
      have : oth F.1 F.2.1 (st C 169 7 v) J q = oth F.1 F.2.1 C J q := by
        unfold oth
        split <;> first | rfl | (exact absurd rfl hq) | simp [st, upd]
      rw [this]
    · exact hf_ge h
theorem hp_f169_9 {F : Fx} {C : Ct} {J : Nat → Int64} {G : Ex} {v : Int32} {c : mC} (hc : c = oth F.1 F.2.1 (st C 169 9 v) J 169) : m_set (hp F C J G) 169 c = hp F (st C 169 9 v) J G := by
  refine set_ext rfl ?_ (fun q hq => ?_)
  · rw [hc]; rfl
  · show hf F (st C 169 9 v) J G q = hf F C J G q
    by_cases h : q < 194
    · rw [hf_lt h, hf_lt h]
      unfold sh
      rw [st_f hq]
      have : oth F.1 F.2.1 (st C 169 9 v) J q = oth F.1 F.2.1 C J q := by
        unfold oth
        split <;> first | rfl | (exact absurd rfl hq) | simp [st, upd]
      rw [this]
    · exact hf_ge h
theorem hp_f169_14 {F : Fx} {C : Ct} {J : Nat → Int64} {G : Ex} {v : Int32} {c : mC} (hc : c = oth F.1 F.2.1 (st C 169 14 v) J 169) : m_set (hp F C J G) 169 c = hp F (st C 169 14 v) J G := by
  refine set_ext rfl ?_ (fun q hq => ?_)
  · rw [hc]; rfl
  · show hf F (st C 169 14 v) J G q = hf F C J G q
    by_cases h : q < 194
    · rw [hf_lt h, hf_lt h]
      unfold sh
      rw [st_f hq]
      have : oth F.1 F.2.1 (st C 169 14 v) J q = oth F.1 F.2.1 C J q := by
        unfold oth
        split <;> first | rfl | (exact absurd rfl hq) | simp [st, upd]
      rw [this]
    · exact hf_ge h
theorem hp_f169_17 {F : Fx} {C : Ct} {J : Nat → Int64} {G : Ex} {v : Int32} {c : mC} (hc : c = oth F.1 F.2.1 (st C 169 17 v) J 169) : m_set (hp F C J G) 169 c = hp F (st C 169 17 v) J G := by
  refine set_ext rfl ?_ (fun q hq => ?_)
  · rw [hc]; rfl
  · show hf F (st C 169 17 v) J G q = hf F C J G q
    by_cases h : q < 194
    · rw [hf_lt h, hf_lt h]
      unfold sh
      rw [st_f hq]
      have : oth F.1 F.2.1 (st C 169 17 v) J q = oth F.1 F.2.1 C J q := by
        unfold oth
        split <;> first | rfl | (exact absurd rfl hq) | simp [st, upd]
      rw [this]
    · exact hf_ge h
theorem hp_f169_18 {F : Fx} {C : Ct} {J : Nat → Int64} {G : Ex} {v : Int32} {c : mC} (hc : c = oth F.1 F.2.1 (st C 169 18 v) J 169) : m_set (hp F C J G) 169 c = hp F (st C 169 18 v) J G := by
  refine set_ext rfl ?_ (fun q hq => ?_)
  · rw [hc]; rfl
  · show hf F (st C 169 18 v) J G q = hf F C J G q
    by_cases h : q < 194
    · rw [hf_lt h, hf_lt h]
      unfold sh
      rw [st_f hq]
      have : oth F.1 F.2.1 (st C 169 18 v) J q = oth F.1 F.2.1 C J q := by
        unfold oth
        split <;> first | rfl | (exact absurd rfl hq) | simp [st, upd]
      rw [this]
    · exact hf_ge h
end
section
/-! rules for the machine's walks -/
/-- a call comes to just this end -/
abbrev Yd (y : Nat) (As : List Value) (h : mH) (o : mE) (H : mH) : Prop := Y y As h (fun o2 h2 => o2 = o ∧ h2 = H)
section XR2
variable {y pc len tgt pc' : Nat} {i : Instr} {L L' : mL} {S S' : List Value} {h h' : mH} {Q : mE → mH → Prop}
theorem X_cd {y' : Nat} {v : Option Value} {H : mH} (h1 : m_at y pc = some (i, len, tgt)) (h2 : m_go y pc i len tgt L S h = none) (h3 : m_inv y i = some y') (h4 : m_may y y' S h = true) (hY : Yd y' (S.take (m_na y')).reverse h (.inl v) H)
    (k : X y (pc + 3) L (v.toList ++ S.drop (m_na y')) H Q) : X y pc L S h Q :=
  X_c h1 h2 h3 h4 hY (fun v2 h2 hq => by obtain ⟨e1, rfl⟩ := hq; cases e1; exact k) (fun x h2 hq => by cases hq.1)
theorem X_cx {y' x : Nat} {H : mH} (h1 : m_at y pc = some (i, len, tgt)) (h2 : m_go y pc i len tgt L S h = none) (h3 : m_inv y i = some y') (h4 : m_may y y' S h = true) (hY : Yd y' (S.take (m_na y')).reverse h (.inr x) H)
    (k : (match m_catch y pc H x with | some t => X y t L [.ref x] H Q | none => Q (.inr x) H)) : X y pc L S h Q :=
  X_c h1 h2 h3 h4 hY (fun v2 h2 hq => by cases hq.1) (fun x2 h2 hq => by obtain ⟨e1, rfl⟩ := hq; cases e1; exact k)
/-- a load at a place that is a number -/
theorem X_ln {j : Int32} {k n : Nat} {f : Nat → Value} (h1 : m_at y pc = some (i, len, tgt)) (h0 : m_step y pc i len tgt L S h = none) (h3 : m_br i S = none) (h2 : m_al i S h = some (j, n, f, S')) (hj : j = nI k) (hk : k < n) (hn : n < 2 ^ 31) (kk : X y (pc + len) L (f k :: S') h Q) : X y pc L S h Q := by
  subst hj
  refine X_l h1 h0 h3 h2 (nI_in hk hn) ?_
  rw [nI_clamp (by omega)]
  exact kk
theorem X_tn {j : Int32} {k n a : Nat} {c : Nat → mC} (h1 : m_at y pc = some (i, len, tgt)) (h0 : m_step y pc i len tgt L S h = none) (h3 : m_br i S = none) (h4 : m_al i S h = none) (h2 : m_as i S h = some (j, n, true, a, c, S')) (hj : j = nI k) (hk : k < n) (hn : n < 2 ^ 31) (kk : X y (pc + len) L S' (m_set h a (c k)) Q) : X y pc L S h Q := by
  subst hj
  refine X_t h1 h0 h3 h4 h2 (nI_in hk hn) ?_
  rw [nI_clamp (by omega)]
  exact kk
/-- a branch that is decided -/
theorem X_bt {c : ClassFile.Cond} {x z : Int32} (h1 : m_at y pc = some (i, len, tgt)) (h0 : m_step y pc i len tgt L S h = none) (h2 : m_br i S = some (c, x, z, S')) (hc : m_cnd c x z) (k : X y tgt L S' h Q) : X y pc L S h Q := X_b h1 h0 h2 (fun _ => k) (fun q => absurd hc q)
theorem X_bf {c : ClassFile.Cond} {x z : Int32} (h1 : m_at y pc = some (i, len, tgt)) (h0 : m_step y pc i len tgt L S h = none) (h2 : m_br i S = some (c, x, z, S')) (hc : ¬ m_cnd c x z) (k : X y (pc + len) L S' h Q) : X y pc L S h Q := X_b h1 h0 h2 (fun q => absurd q hc) (fun _ => k)
theorem X_pc {pc2 : Nat} (e : pc = pc2) (k : X y pc2 L S h Q) : X y pc L S h Q := e ▸ k
theorem X_h {H : mH} (e : h = H) (k : X y pc L S H Q) : X y pc L S h Q := e ▸ k
theorem Yd_of {As : List Value} {o : mE} {H : mH} (k : ∀ Q : mE → mH → Prop, Q o H → Y y As h Q) : Yd y As h o H := k _ ⟨rfl, rfl⟩
/-- a spec in the other form -/
theorem Yd.to {As : List Value} {o : mE} {H : mH} (hy : Yd y As h o H) {Q : mE → mH → Prop} (k : Q o H) : Y y As h Q := by
  obtain ⟨n, o2, h2, q, e1, e2⟩ := hy
  subst e1; subst e2
  exact ⟨n, _, _, q, k⟩
end XR2
/-- a storey's numbers -/
def okF (F : Fx) : Prop := (2 ≤ F.1 ∧ F.1 ≤ 24) ∧ (2 ≤ F.2.1 ∧ F.2.1 ≤ 24) ∧ F.2.2.1 ≤ 2562
theorem okF.n {F : Fx} (h : okF F) : F.1 * F.2.1 ≤ 576 := by
  obtain ⟨⟨-, h1⟩, ⟨-, h2⟩, -⟩ := h
  exact Nat.mul_le_mul h1 h2
def bI (b : Bool) : Int32 := if b then 1 else 0
theorem bI_t : bI true = 1 := rfl
theorem bI_f : bI false = 0 := rfl
theorem bI_t0 : ¬ bI true = 0 := by decide
theorem bI_f0 : bI false = 0 := by decide
theorem bI_fit (b : Bool) : m_fit .boolean (.int (bI b)) = true := by cases b <;> decide
theorem st_r {C : Ct} {k i k' j : Nat} {v : Int32} : st C k i v k' j = if k' = k then (if j = i then v else C k j) else C k' j := by
  unfold st
  split
  · rfl
  · rfl
theorem nI_1' (a : Nat) : nI a + Int32.ofInt 1 = nI (a + 1) := nI_1 a
end
section
/-! Storey: its small methods -/
section
variable {F : Fx} {C : Ct} {J : Nat → Int64} {G : Ex} {h : mH}
theorem Y_isWithin {a b c : Int32} : Yd y_Esc_isWithin [.int a, .int b, .int c] h (.inl (some (.int (bI (decide (b ≤ a ∧ a ≤ c)))))) h := by
  refine Yd_of (fun Q k => ?_)
  unfold Y
  repeat (refine X_s rfl rfl ?_)
  refine X_b rfl rfl rfl (fun q => ?_) (fun q => ?_)
  · repeat (refine X_s rfl rfl ?_)
    refine X_r rfl rfl rfl rfl ?_
    rw [decide_eq_false (fun h => Int32.not_lt.mpr h.1 q)] at k; exact k
  · repeat (refine X_s rfl rfl ?_)
    refine X_b rfl rfl rfl (fun q2 => ?_) (fun q2 => ?_)
    · repeat (refine X_s rfl rfl ?_)
      refine X_r rfl rfl rfl rfl ?_
      rw [decide_eq_false (fun h => Int32.not_lt.mpr h.2 q2)] at k; exact k
    · repeat (refine X_s rfl rfl ?_)
      refine X_r rfl rfl rfl rfl ?_
      rw [decide_eq_true ⟨Int32.not_lt.mp q, Int32.not_lt.mp q2⟩] at k; exact k
/-- a cell of the storey: its number -/
theorem Y_cellOf {i j : Nat} (hF : okF F) (hi : i < F.1) (hj : j < F.2.1) : Yd y_Storey_cellOf [.ref 1, .int (nI i), .int (nI j)] (hp F C J G) (.inl (some (.int (nI (j * F.1 + i))))) (hp F C J G) := by
  obtain ⟨⟨f1, f2⟩, ⟨f3, f4⟩, -⟩ := hF
  refine Yd_of (fun Q k => ?_)
  unfold Y
  repeat (refine X_s rfl rfl ?_)
  refine X_b rfl rfl rfl (fun q => absurd q (nI_pos (by omega))) (fun _ => ?_)
  repeat (refine X_s rfl rfl ?_)
  refine X_b rfl rfl rfl (fun q => absurd q (nI_ge hi (by omega))) (fun _ => ?_)
  repeat (refine X_s rfl rfl ?_)
  refine X_b rfl rfl rfl (fun q => absurd q (nI_pos (by omega))) (fun _ => ?_)
  repeat (refine X_s rfl rfl ?_)
  refine X_b rfl rfl rfl (fun q => ?_) (fun q => absurd (nI_lt hj (by omega)) q)
  repeat (refine X_s rfl rfl ?_)
  refine X_r rfl rfl rfl rfl ?_
  rw [show nI j * nI F.1 + nI i = nI (j * F.1 + i) by rw [pk_mul, nI_add]]
  exact k
/-- no cell of the storey -/
theorem Y_cellOf_no {x z : Int32} (hF : okF F) (hn : x < 0 ∨ nI F.1 ≤ x ∨ z < 0 ∨ nI F.2.1 ≤ z) : Yd y_Storey_cellOf [.ref 1, .int x, .int z] (hp F C J G) (.inl (some (.int (-1)))) (hp F C J G) := by
  refine Yd_of (fun Q k => ?_)
  unfold Y
  repeat (refine X_s rfl rfl ?_)
  refine X_b rfl rfl rfl (fun q1 => ?_) (fun q1 => ?_)
  · repeat (refine X_s rfl rfl ?_)
    exact X_r rfl rfl rfl rfl k
  repeat (refine X_s rfl rfl ?_)
  refine X_b rfl rfl rfl (fun q2 => ?_) (fun q2 => ?_)
  · repeat (refine X_s rfl rfl ?_)
    exact X_r rfl rfl rfl rfl k
  repeat (refine X_s rfl rfl ?_)
  refine X_b rfl rfl rfl (fun q3 => ?_) (fun q3 => ?_)
  · repeat (refine X_s rfl rfl ?_)
    exact X_r rfl rfl rfl rfl k
  repeat (refine X_s rfl rfl ?_)
  refine X_b rfl rfl rfl (fun q4 => ?_) (fun q4 => ?_)
  · exfalso
    rcases hn with q | q | q | q
    · exact q1 q
    · exact q2 q
    · exact q3 q
    · exact Int32.not_lt.mpr q q4
  · repeat (refine X_s rfl rfl ?_)
    exact X_r rfl rfl rfl rfl k
theorem Y_isWall {c : Nat} (hF : okF F) (hc : c < F.1 * F.2.1) : Yd y_Storey_isWall [.ref 1, .int (nI c)] (hp F C J G) (.inl (some (.int (bI (decide (C 2 c = 1)))))) (hp F C J G) := by
  have hn := hF.n
  refine Yd_of (fun Q k => ?_)
  unfold Y
  repeat (refine X_s rfl rfl ?_)
  refine X_ln rfl rfl rfl rfl rfl hc (show F.1 * F.2.1 < 2 ^ 31 by omega) ?_
  repeat (refine X_s rfl rfl ?_)
  refine X_b rfl rfl rfl (fun q => ?_) (fun q => ?_)
  · repeat (refine X_s rfl rfl ?_)
    refine X_r rfl rfl rfl rfl ?_
    rw [decide_eq_false (by exact q)] at k; exact k
  · repeat (refine X_s rfl rfl ?_)
    refine X_r rfl rfl rfl rfl ?_
    rw [show decide (C 2 c = 1) = true from decide_eq_true (Decidable.not_not.mp q)] at k; exact k
theorem Y_isExit {c : Nat} (hF : okF F) (hc : c < F.1 * F.2.1) : Yd y_Storey_isExit [.ref 1, .int (nI c)] (hp F C J G) (.inl (some (.int (bI (decide (C 2 c = 2)))))) (hp F C J G) := by
  have hn := hF.n
  refine Yd_of (fun Q k => ?_)
  unfold Y
  repeat (refine X_s rfl rfl ?_)
  refine X_ln rfl rfl rfl rfl rfl hc (show F.1 * F.2.1 < 2 ^ 31 by omega) ?_
  repeat (refine X_s rfl rfl ?_)
  refine X_b rfl rfl rfl (fun q => ?_) (fun q => ?_)
  · repeat (refine X_s rfl rfl ?_)
    refine X_r rfl rfl rfl rfl ?_
    rw [decide_eq_false (by exact q)] at k; exact k
  · repeat (refine X_s rfl rfl ?_)
    refine X_r rfl rfl rfl rfl ?_
    rw [show decide (C 2 c = 2) = true from decide_eq_true (Decidable.not_not.mp q)] at k; exact k
theorem Y_hasRate {c : Nat} (hF : okF F) (hc : c < F.1 * F.2.1) : Yd y_Storey_hasRate [.ref 1, .int (nI c)] (hp F C J G) (.inl (some (.int (bI (decide (C 2 c = 2 ∨ C 2 c = 3)))))) (hp F C J G) := by
  have hn := hF.n
  refine Yd_of (fun Q k => ?_)
  unfold Y
  repeat (refine X_s rfl rfl ?_)
  refine X_ln rfl rfl rfl rfl rfl hc (show F.1 * F.2.1 < 2 ^ 31 by omega) ?_
  repeat (refine X_s rfl rfl ?_)
  refine X_b rfl rfl rfl (fun q => ?_) (fun q => ?_)
  · repeat (refine X_s rfl rfl ?_)
    refine X_r rfl rfl rfl rfl ?_
    rw [decide_eq_true (Or.inl (by exact q))] at k; exact k
  · repeat (refine X_s rfl rfl ?_)
    refine X_ln rfl rfl rfl rfl rfl hc (show F.1 * F.2.1 < 2 ^ 31 by omega) ?_
    repeat (refine X_s rfl rfl ?_)
    refine X_b rfl rfl rfl (fun q2 => ?_) (fun q2 => ?_)
    · repeat (refine X_s rfl rfl ?_)
      refine X_r rfl rfl rfl rfl ?_
      rw [decide_eq_false (fun h => h.elim q q2)] at k; exact k
    · repeat (refine X_s rfl rfl ?_)
      refine X_r rfl rfl rfl rfl ?_
      rw [show decide (C 2 c = 2 ∨ C 2 c = 3) = true from decide_eq_true (Or.inr (Decidable.not_not.mp q2))] at k; exact k
theorem Y_isBarred {c : Nat} {t : Int32} (hF : okF F) (hc : c < F.1 * F.2.1) : Yd y_Storey_isBarred [.ref 1, .int (nI c), .int t] (hp F C J G) (.inl (some (.int (bI (decide (¬ C 4 c = -1 ∧ C 4 c ≤ t)))))) (hp F C J G) := by
  have hn := hF.n
  refine Yd_of (fun Q k => ?_)
  unfold Y
  repeat (refine X_s rfl rfl ?_)
  refine X_ln rfl rfl rfl rfl rfl hc (show F.1 * F.2.1 < 2 ^ 31 by omega) ?_
  repeat (refine X_s rfl rfl ?_)
  refine X_b rfl rfl rfl (fun q => ?_) (fun q => ?_)
  · repeat (refine X_s rfl rfl ?_)
    refine X_r rfl rfl rfl rfl ?_
    rw [decide_eq_false (fun h => h.1 q)] at k; exact k
  · repeat (refine X_s rfl rfl ?_)
    refine X_ln rfl rfl rfl rfl rfl hc (show F.1 * F.2.1 < 2 ^ 31 by omega) ?_
    repeat (refine X_s rfl rfl ?_)
    refine X_b rfl rfl rfl (fun q2 => ?_) (fun q2 => ?_)
    · repeat (refine X_s rfl rfl ?_)
      refine X_r rfl rfl rfl rfl ?_
      rw [decide_eq_false (fun h => Int32.not_lt.mpr h.2 q2)] at k; exact k
    · repeat (refine X_s rfl rfl ?_)
      refine X_r rfl rfl rfl rfl ?_
      rw [decide_eq_true ⟨q, Int32.not_lt.mp q2⟩] at k; exact k
theorem Y_isExitNumberOrNone {x : Int32} : Yd y_Storey_isExitNumberOrNone [.ref 1, .int x] (hp F C J G) (.inl (some (.int (bI (decide (-1 ≤ x ∧ x < C 1 11)))))) (hp F C J G) := by
  refine Yd_of (fun Q k => ?_)
  unfold Y
  repeat (refine X_s rfl rfl ?_)
  refine X_b rfl rfl rfl (fun q => ?_) (fun q => ?_)
  · repeat (refine X_s rfl rfl ?_)
    refine X_r rfl rfl rfl rfl ?_
    rw [decide_eq_false (fun h => Int32.not_lt.mpr h.1 q)] at k; exact k
  · repeat (refine X_s rfl rfl ?_)
    refine X_b rfl rfl rfl (fun q2 => ?_) (fun q2 => ?_)
    · repeat (refine X_s rfl rfl ?_)
      refine X_r rfl rfl rfl rfl ?_
      rw [decide_eq_false (fun h => Int32.not_lt.mpr q2 h.2)] at k; exact k
    · repeat (refine X_s rfl rfl ?_)
      refine X_r rfl rfl rfl rfl ?_
      rw [decide_eq_true ⟨Int32.not_lt.mp q, Int32.not_le.mp q2⟩] at k; exact k
theorem Y_makeFree {c : Nat} (hF : okF F) (hc : c < F.1 * F.2.1) : Yd y_Storey_makeFree [.ref 1, .int (nI c)] (hp F C J G) (.inl none) (hp F (st C 2 c 0) J G) := by
  have hn := hF.n
  refine Yd_of (fun Q k => ?_)
  unfold Y
  repeat (refine X_s rfl rfl ?_)
  refine X_tn rfl rfl rfl rfl rfl rfl hc (show F.1 * F.2.1 < 2 ^ 31 by omega) ?_
  refine X_h (hp_st rfl rfl) ?_
  exact X_r rfl rfl rfl rfl k
end
end
section
/-! Storey: what writes; the cell beside -/
section
variable {F : Fx} {C : Ct} {J : Nat → Int64} {G : Ex} {h : mH}
/-- 'besides' at a cell and a way: -1, or a cell -/
def okB (F : Fx) (C : Ct) : Prop := ∀ c, c < F.1 * F.2.1 → ∀ w, w < 4 → C 9 (c * 4 + w) = -1 ∨ ∃ d, d < F.1 * F.2.1 ∧ C 9 (c * 4 + w) = nI d
/-- the open cell beside, as a number or -1 -/
def opB (C : Ct) (c w : Nat) : Int32 := if C 9 (c * 4 + w) = -1 ∨ C 2 (C 9 (c * 4 + w)).toNatClampNeg = 1 then -1 else C 9 (c * 4 + w)
theorem Y_openBeside {c w : Nat} (hF : okF F) (hB : okB F C) (hc : c < F.1 * F.2.1) (hw : w < 4) : Yd y_Storey_openBeside [.ref 1, .int (nI c), .int (nI w)] (hp F C J G) (.inl (some (.int (opB C c w)))) (hp F C J G) := by
  have hn := hF.n
  refine Yd_of (fun Q k => ?_)
  unfold Y
  repeat (refine X_s rfl rfl ?_)
  refine X_ln rfl rfl rfl rfl (show nI c * 4 + nI w = nI (c * 4 + w) from by rw [show (4 : Int32) = nI 4 from rfl, pk_mul, nI_add]) (show c * 4 + w < 4 * (F.1 * F.2.1) by omega) (show 4 * (F.1 * F.2.1) < 2 ^ 31 by omega) ?_
  repeat (refine X_s rfl rfl ?_)
  refine X_b rfl rfl rfl (fun q => ?_) (fun q => ?_)
  · repeat (refine X_s rfl rfl ?_)
    refine X_r rfl rfl rfl rfl ?_
    rw [opB, if_pos (Or.inl (by exact q))] at k; exact k
  · rcases hB c hc w hw with e | ⟨d, hd, e⟩
    · exact absurd e q
    · repeat (refine X_s rfl rfl ?_)
      rw [e]
      refine X_cd rfl rfl rfl rfl (Y_isWall hF hd) ?_
      have ec : (C 9 (c * 4 + w)).toNatClampNeg = d := by rw [e, nI_clamp (by omega)]
      by_cases hx : C 2 d = 1
      · rw [show decide (C 2 d = 1) = true from decide_eq_true hx]
        refine X_bf rfl rfl rfl bI_t0 ?_
        · repeat (refine X_s rfl rfl ?_)
          refine X_r rfl rfl rfl rfl ?_
          rw [opB, if_pos (Or.inr (by rw [ec]; exact hx))] at k; exact k
      · rw [show decide (C 2 d = 1) = false from decide_eq_false hx]
        refine X_bt rfl rfl rfl bI_f0 ?_
        · repeat (refine X_s rfl rfl ?_)
          refine X_r rfl rfl rfl rfl ?_
          rw [opB, if_neg (fun h => h.elim (fun h => q h) (fun h => hx (by rw [ec] at h; exact h))), e] at k; exact k
/-- makeWall -/
def mkWall (C : Ct) (c : Nat) : Ct := if C 5 c = -1 then st C 2 c 1 else st (st (st C 6 (C 5 c).toNatClampNeg (-1)) 5 c (-1)) 2 c 1
theorem Y_makeWall {c : Nat} (hF : okF F) (hc : c < F.1 * F.2.1) (hx : C 5 c = -1 ∨ ∃ e, e < 8 ∧ C 5 c = nI e) : Yd y_Storey_makeWall [.ref 1, .int (nI c)] (hp F C J G) (.inl none) (hp F (mkWall C c) J G) := by
  have hn := hF.n
  refine Yd_of (fun Q k => ?_)
  unfold Y
  repeat (refine X_s rfl rfl ?_)
  refine X_ln rfl rfl rfl rfl rfl hc (show F.1 * F.2.1 < 2 ^ 31 by omega) ?_
  repeat (refine X_s rfl rfl ?_)
  refine X_b rfl rfl rfl (fun q => ?_) (fun q => ?_)
  · repeat (refine X_s rfl rfl ?_)
    refine X_tn rfl rfl rfl rfl rfl rfl hc (show F.1 * F.2.1 < 2 ^ 31 by omega) ?_
    refine X_h (hp_st rfl rfl) ?_
    refine X_r rfl rfl rfl rfl ?_
    rw [mkWall, if_pos (by exact q)] at k; exact k
  · rcases hx with e | ⟨x, hx, e⟩
    · exact absurd e q
    · repeat (refine X_s rfl rfl ?_)
      refine X_tn rfl rfl rfl rfl rfl e hx (show 8 < 2 ^ 31 by omega) ?_
      refine X_h (hp_st rfl rfl) ?_
      repeat (refine X_s rfl rfl ?_)
      refine X_tn rfl rfl rfl rfl rfl rfl hc (show F.1 * F.2.1 < 2 ^ 31 by omega) ?_
      refine X_h (hp_st rfl rfl) ?_
      repeat (refine X_s rfl rfl ?_)
      refine X_tn rfl rfl rfl rfl rfl rfl hc (show F.1 * F.2.1 < 2 ^ 31 by omega) ?_
      refine X_h (hp_st rfl rfl) ?_
      refine X_r rfl rfl rfl rfl ?_
      rw [mkWall, if_neg (by exact q), e, nI_clamp (by omega)] at k; exact k
/-- makeExit, where one more may be -/
theorem Y_makeExit {c x : Nat} (hF : okF F) (hc : c < F.1 * F.2.1) (hx : x < 8) (e : C 1 11 = nI x) : Yd y_Storey_makeExit [.ref 1, .int (nI c)] (hp F C J G) (.inl none) (hp F (st (st (st (st C 2 c 2) 5 c (nI x)) 6 x (nI c)) 1 11 (nI (x + 1))) J G) := by
  have hn := hF.n
  refine Yd_of (fun Q k => ?_)
  unfold Y
  repeat (refine X_s rfl rfl ?_)
  refine X_b rfl rfl rfl (fun q => ?_) (fun q => ?_)
  · exfalso
    rw [e] at q
    exact nI_ge hx (by omega) q
  · repeat (refine X_s rfl rfl ?_)
    refine X_tn rfl rfl rfl rfl rfl rfl hc (show F.1 * F.2.1 < 2 ^ 31 by omega) ?_
    refine X_h (hp_st rfl rfl) ?_
    repeat (refine X_s rfl rfl ?_)
    refine X_tn rfl rfl rfl rfl rfl rfl hc (show F.1 * F.2.1 < 2 ^ 31 by omega) ?_
    refine X_h (hp_st rfl rfl) ?_
    repeat (refine X_s rfl rfl ?_)
    refine X_tn rfl rfl rfl rfl rfl (k := x) ?_ hx (show 8 < 2 ^ 31 by omega) ?_
    · exact e
    refine X_h (hp_st rfl rfl) ?_
    repeat (refine X_s rfl rfl ?_)
    refine X_h (hp_f1_11 rfl) ?_
    refine X_r rfl rfl rfl rfl ?_
    simpa [st_r, e, nI_1] using k
end
end
section
/-! small methods of the other classes -/
section
variable {F : Fx} {C : Ct} {J : Nat → Int64} {G : Ex} {h : mH}
theorem nI_nlt_ge {a b : Nat} (h : a < b) (hb : b < 2 ^ 31 := by omega) : ¬ nI b ≤ nI a := nI_ge h hb
theorem Y_sideOf {a : Int32} : Yd y_Esc_sideOf [.int a] h (.inl (some (.int (if 2 < (if a < 24 then a else 24) then (if a < 24 then a else 24) else 2)))) h := by
  refine Yd_of (fun Q k => ?_)
  unfold Y
  repeat (refine X_s rfl rfl ?_)
  exact X_r rfl rfl rfl rfl k
theorem Y_has {x : Int32} : Yd y_People_has [.ref 23, .int x] (hp F C J G) (.inl (some (.int (bI (decide (0 ≤ x ∧ x < C 23 5)))))) (hp F C J G) := by
  refine Yd_of (fun Q k => ?_)
  unfold Y
  repeat (refine X_s rfl rfl ?_)
  refine X_b rfl rfl rfl (fun q => ?_) (fun q => ?_)
  · repeat (refine X_s rfl rfl ?_)
    refine X_r rfl rfl rfl rfl ?_
    rw [show decide (0 ≤ x ∧ x < C 23 5) = false from decide_eq_false (fun h => Int32.not_lt.mpr h.1 q)] at k; exact k
  · repeat (refine X_s rfl rfl ?_)
    refine X_b rfl rfl rfl (fun q2 => ?_) (fun q2 => ?_)
    · repeat (refine X_s rfl rfl ?_)
      refine X_r rfl rfl rfl rfl ?_
      rw [show decide (0 ≤ x ∧ x < C 23 5) = false from decide_eq_false (fun h => Int32.not_lt.mpr q2 h.2)] at k; exact k
    · repeat (refine X_s rfl rfl ?_)
      refine X_r rfl rfl rfl rfl ?_
      rw [show decide (0 ≤ x ∧ x < C 23 5) = true from decide_eq_true ⟨Int32.not_lt.mp q, Int32.not_le.mp q2⟩] at k; exact k
/-- add: a person more -/
def addP (C : Ct) (p c : Nat) (pace delay : Int32) : Ct := st (st (st (st (st (st C 24 p (nI c)) 25 p pace) 26 p delay) 27 p (-1)) 28 c (nI p)) 23 5 (nI (p + 1))
theorem Y_add {p c : Nat} {pace delay : Int32} (hF : okF F) (hc : c < F.1 * F.2.1) (hp60 : p < 60) (e : C 23 5 = nI p) : Yd y_People_add [.ref 23, .int (nI c), .int pace, .int delay] (hp F C J G) (.inl (some (.int (nI p)))) (hp F (addP C p c pace delay) J G) := by
  have hn := hF.n
  refine Yd_of (fun Q k => ?_)
  unfold Y
  repeat (refine X_s rfl rfl ?_)
  rw [e]
  refine X_bt rfl rfl rfl (nI_lt hp60 (by omega)) ?_
  repeat (refine X_s rfl rfl ?_)
  refine X_tn rfl rfl rfl rfl rfl rfl hp60 (show 60 < 2 ^ 31 by omega) ?_
  refine X_h (hp_st rfl rfl) ?_
  repeat (refine X_s rfl rfl ?_)
  refine X_tn rfl rfl rfl rfl rfl rfl hp60 (show 60 < 2 ^ 31 by omega) ?_
  refine X_h (hp_st rfl rfl) ?_
  repeat (refine X_s rfl rfl ?_)
  refine X_tn rfl rfl rfl rfl rfl rfl hp60 (show 60 < 2 ^ 31 by omega) ?_
  refine X_h (hp_st rfl rfl) ?_
  repeat (refine X_s rfl rfl ?_)
  refine X_tn rfl rfl rfl rfl rfl rfl hp60 (show 60 < 2 ^ 31 by omega) ?_
  refine X_h (hp_st rfl rfl) ?_
  repeat (refine X_s rfl rfl ?_)
  refine X_tn rfl rfl rfl rfl rfl rfl hc (show F.1 * F.2.1 < 2 ^ 31 by omega) ?_
  refine X_h (hp_st rfl rfl) ?_
  repeat (refine X_s rfl rfl ?_)
  refine X_h (hp_f23_5 rfl) ?_
  repeat (refine X_s rfl rfl ?_)
  refine X_r rfl rfl rfl rfl ?_
  simpa [st_r, e, nI_1, addP] using k
/-- foundRowTo: the row's cell -/
theorem Y_foundRowTo {e : Nat} {x : Int32} (hx : x + 1 = nI e) (he : e < 9) : Yd y_Numbers_foundRowTo [.ref 10, .int x] (hp F C J G) (.inl (some (.ref (12 + e)))) (hp F C J G) := by
  refine Yd_of (fun Q k => ?_)
  unfold Y
  repeat (refine X_s rfl rfl ?_)
  refine X_ln rfl rfl rfl rfl hx he (show 9 < 2 ^ 31 by omega) ?_
  exact X_r rfl rfl rfl rfl k
/-- the reference: thrown, refuses, isCell, cell, changed, isGoal, numberOf, isBarred -/
theorem Y_thrown : Yd y_Model_thrown [.ref 169] (hp F C J G) (.inl (some (.int (C 169 0)))) (hp F C J G) := by
  refine Yd_of (fun Q k => ?_)
  unfold Y
  repeat (refine X_s rfl rfl ?_)
  exact X_r rfl rfl rfl rfl k
theorem Y_refuses {w : Int32} : Yd y_Model_refuses [.ref 169, .int w] (hp F C J G) (.inl (some (.int (bI (decide (0 < w)))))) (hp F (st C 169 0 w) J G) := by
  refine Yd_of (fun Q k => ?_)
  unfold Y
  repeat (refine X_s rfl rfl ?_)
  refine X_h (hp_f169_0 rfl) ?_
  repeat (refine X_s rfl rfl ?_)
  refine X_b rfl rfl rfl (fun q => ?_) (fun q => ?_)
  · repeat (refine X_s rfl rfl ?_)
    refine X_r rfl rfl rfl rfl ?_
    rw [show decide (0 < w) = false from decide_eq_false (Int32.not_lt.mpr q)] at k; exact k
  · repeat (refine X_s rfl rfl ?_)
    refine X_r rfl rfl rfl rfl ?_
    rw [show decide (0 < w) = true from decide_eq_true (Int32.not_le.mp q)] at k; exact k
theorem Y_changed : Yd y_Model_changed [.ref 169] (hp F C J G) (.inl none) (hp F (st (st C 169 14 0) 169 17 0) J G) := by
  refine Yd_of (fun Q k => ?_)
  unfold Y
  iterate 3 (refine X_s rfl rfl ?_)
  refine X_h (hp_f169_14 rfl) ?_
  iterate 3 (refine X_s rfl rfl ?_)
  refine X_h (hp_f169_17 rfl) ?_
  exact X_r rfl rfl rfl rfl k
theorem Y_mcell {i j : Nat} (h : mH) : Yd y_Model_cell [.int (nI i), .int (nI j)] h (.inl (some (.int (nI (24 * j + i))))) h := by
  refine Yd_of (fun Q k => ?_)
  unfold Y
  repeat (refine X_s rfl rfl ?_)
  refine X_r rfl rfl rfl rfl ?_
  have e : (24 : Int32) * nI j + nI i = nI (24 * j + i) := by rw [show (24 : Int32) = nI 24 from rfl, pk_mul, nI_add]
  rw [← e] at k
  exact k
/-- is it a cell of the storey -/
theorem Y_isCell {x z : Int32} : Yd y_Model_isCell [.ref 169, .int x, .int z] (hp F C J G) (.inl (some (.int (bI (decide ((0 ≤ x ∧ x < nI F.1) ∧ (0 ≤ z ∧ z < nI F.2.1))))))) (hp F C J G) := by
  refine Yd_of (fun Q k => ?_)
  unfold Y
  have no : ¬ ((0 ≤ x ∧ x < nI F.1) ∧ (0 ≤ z ∧ z < nI F.2.1)) → Q (.inl (some (.int 0))) (hp F C J G) := fun h => by rw [decide_eq_false h] at k; exact k
  repeat (refine X_s rfl rfl ?_)
  refine X_b rfl rfl rfl (fun q => ?_) (fun q => ?_)
  · repeat (refine X_s rfl rfl ?_)
    exact X_r rfl rfl rfl rfl (no (fun h => Int32.not_lt.mpr h.1.1 q))
  repeat (refine X_s rfl rfl ?_)
  refine X_b rfl rfl rfl (fun q2 => ?_) (fun q2 => ?_)
  · repeat (refine X_s rfl rfl ?_)
    exact X_r rfl rfl rfl rfl (no (fun h => Int32.not_lt.mpr q2 h.1.2))
  repeat (refine X_s rfl rfl ?_)
  refine X_b rfl rfl rfl (fun q3 => ?_) (fun q3 => ?_)
  · repeat (refine X_s rfl rfl ?_)
    exact X_r rfl rfl rfl rfl (no (fun h => Int32.not_lt.mpr h.2.1 q3))
  repeat (refine X_s rfl rfl ?_)
  refine X_b rfl rfl rfl (fun q4 => ?_) (fun q4 => ?_)
  · repeat (refine X_s rfl rfl ?_)
    exact X_r rfl rfl rfl rfl (no (fun h => Int32.not_lt.mpr q4 h.2.2))
  repeat (refine X_s rfl rfl ?_)
  refine X_r rfl rfl rfl rfl ?_
  rw [show decide ((0 ≤ x ∧ x < nI F.1) ∧ (0 ≤ z ∧ z < nI F.2.1)) = true from decide_eq_true ⟨⟨Int32.not_lt.mp q, Int32.not_le.mp q2⟩, Int32.not_lt.mp q3, Int32.not_le.mp q4⟩] at k
  exact k
theorem Y_numberOf {w c : Nat} (hw : w ≤ 8) (hc : c < 576) : Yd y_Model_numberOf [.ref 169, .int (nI w), .int (nI c)] (hp F C J G) (.inl (some (.int (C 179 (576 * w + c))))) (hp F C J G) := by
  refine Yd_of (fun Q k => ?_)
  unfold Y
  repeat (refine X_s rfl rfl ?_)
  refine X_ln rfl rfl rfl rfl (show (576 : Int32) * nI w + nI c = nI (576 * w + c) from by rw [show (576 : Int32) = nI 576 from rfl, pk_mul, nI_add]) (show 576 * w + c < 5184 by omega) (show 5184 < 2 ^ 31 by omega) ?_
  exact X_r rfl rfl rfl rfl k
theorem Y_misBarred {c : Nat} {t : Int32} (hc : c < 576) : Yd y_Model_isBarred [.ref 169, .int (nI c), .int t] (hp F C J G) (.inl (some (.int (bI (decide (0 ≤ C 173 c ∧ C 173 c ≤ t)))))) (hp F C J G) := by
  refine Yd_of (fun Q k => ?_)
  unfold Y
  repeat (refine X_s rfl rfl ?_)
  refine X_ln rfl rfl rfl rfl rfl hc (show 576 < 2 ^ 31 by omega) ?_
  repeat (refine X_s rfl rfl ?_)
  refine X_b rfl rfl rfl (fun q => ?_) (fun q => ?_)
  · repeat (refine X_s rfl rfl ?_)
    refine X_r rfl rfl rfl rfl ?_
    rw [show decide (0 ≤ C 173 c ∧ C 173 c ≤ t) = false from decide_eq_false (fun h => Int32.not_lt.mpr h.1 q)] at k; exact k
  · repeat (refine X_s rfl rfl ?_)
    refine X_ln rfl rfl rfl rfl rfl hc (show 576 < 2 ^ 31 by omega) ?_
    repeat (refine X_s rfl rfl ?_)
    refine X_b rfl rfl rfl (fun q2 => ?_) (fun q2 => ?_)
    · repeat (refine X_s rfl rfl ?_)
      refine X_r rfl rfl rfl rfl ?_
      rw [show decide (0 ≤ C 173 c ∧ C 173 c ≤ t) = false from decide_eq_false (fun h => Int32.not_lt.mpr h.2 q2)] at k; exact k
    · repeat (refine X_s rfl rfl ?_)
      refine X_r rfl rfl rfl rfl ?_
      rw [show decide (0 ≤ C 173 c ∧ C 173 c ≤ t) = true from decide_eq_true ⟨Int32.not_lt.mp q, Int32.not_lt.mp q2⟩] at k; exact k
end
end
section
/-! arrays at cells whose number is a variable; Arrays.fill -/
section XR3
variable {y pc len tgt pc' a n k : Nat} {f : Nat → Int32} {j x : Int32} {L L' : mL} {S S' : List Value} {h h' : mH} {Q : mE → mH → Prop}
theorem X_li (h1 : m_at y pc = some (.iaload, 1, tgt)) (hh : h.1 a = mI n f) (hj : j = nI k) (hk : k < n) (hn : n < 2 ^ 31) (kk : X y (pc + 1) L (.int (f k) :: S) h Q) : X y pc L (.int j :: .ref a :: S) h Q :=
  X_ln (f := fun k => .int (f k)) h1 rfl rfl (by simp only [m_al, hh]) hj hk hn kk
theorem X_ti (h1 : m_at y pc = some (.iastore, 1, tgt)) (hh : h.1 a = mI n f) (ha : a < 1000000000) (hj : j = nI k) (hk : k < n) (hn : n < 2 ^ 31) (kk : X y (pc + 1) L S (m_set h a (mI n (upd f k x))) Q) : X y pc L (.int x :: .int j :: .ref a :: S) h Q :=
  X_tn (c := fun k => mI n (upd f k x)) h1 rfl rfl rfl (by
    have : decide (a < m_sB) = true := decide_eq_true ha
    simp only [m_as, hh, this]) hj hk hn kk
theorem X_len (h1 : m_at y pc = some (.arraylength, 1, tgt)) (hh : h.1 a = mI n f) (kk : X y (pc + 1) L (.int (nI n) :: S) h Q) : X y pc L (.ref a :: S) h Q :=
  X_s h1 (by simp only [m_step, hh]; rfl) kk
end XR3
theorem m_set_set (h : mH) (k : Nat) (a b : mC) : m_set (m_set h k a) k b = m_set h k b := by
  refine set_ext rfl ?_ (fun j hj => ?_)
  · show (if k = k then b else _) = b
    rw [if_pos rfl]
  · show (if j = k then b else h.1 j) = (if j = k then a else h.1 j)
    rw [if_neg hj, if_neg hj]
theorem m_set_self {h : mH} {k : Nat} {c : mC} (e : h.1 k = c) : m_set h k c = h := set_ext rfl e (fun _ _ => rfl)
theorem m_set_at (h : mH) (k : Nat) (c : mC) : (m_set h k c).1 k = c := if_pos rfl
/-- the first i places hold v -/
def flt (f : Nat → Int32) (v : Int32) (i : Nat) : Nat → Int32 := fun j => if j < i then v else f j
theorem flt_0 (f : Nat → Int32) (v : Int32) : flt f v 0 = f := by funext j; simp [flt]
theorem flt_s (f : Nat → Int32) (v : Int32) (i : Nat) : upd (flt f v i) i v = flt f v (i + 1) := by
  funext j
  simp only [upd, flt]
  by_cases e : j = i
  · subst e; rw [if_pos rfl, if_pos (by omega)]
  · rw [if_neg e]
    by_cases q : j < i
    · rw [if_pos q, if_pos (by omega)]
    · rw [if_neg q, if_neg (by omega)]
theorem Y_fill_loop {k n : Nat} {f : Nat → Int32} {v : Int32} {h : mH} {Q : mE → mH → Prop} (hk : k < 1000000000) (hn : n < 2 ^ 31) (kk : Q (.inl none) (m_set h k (mI n (flt f v n)))) :
    ∀ (d i : Nat), i + d = n → X y_Arrays_fill 5 [some (.ref k), some (.int v), some (.int (nI i)), some (.int (nI n))] [] (m_set h k (mI n (flt f v i))) Q := by
  intro d
  induction d with
  | zero =>
    intro i hi
    have : i = n := by omega
    subst this
    iterate 2 (refine X_s rfl rfl ?_)
    refine X_bt rfl rfl rfl (Int32.le_refl _) ?_
    exact X_r rfl rfl rfl rfl kk
  | succ d ih =>
    intro i hi
    iterate 2 (refine X_s rfl rfl ?_)
    refine X_bf rfl rfl rfl (nI_ge (by omega) hn) ?_
    iterate 3 (refine X_s rfl rfl ?_)
    refine X_ti rfl (m_set_at _ _ _) hk rfl (by omega) hn ?_
    refine X_h (m_set_set _ _ _ _) ?_
    rw [flt_s]
    iterate 2 (refine X_s rfl rfl ?_)
    have e := ih (i + 1) (by omega)
    rw [← nI_1'] at e
    exact e
theorem Y_fill {k n : Nat} {f : Nat → Int32} {v : Int32} {h : mH} (hh : h.1 k = mI n f) (hk : k < 1000000000) (hn : n < 2 ^ 31) : Yd y_Arrays_fill [.ref k, .int v] h (.inl none) (m_set h k (mI n (flt f v n))) := by
  refine Yd_of (fun Q kk => ?_)
  unfold Y
  iterate 3 (refine X_s rfl rfl ?_)
  refine X_len rfl hh ?_
  refine X_s rfl rfl ?_
  have e := Y_fill_loop (f := f) (v := v) (h := h) (Q := Q) hk hn kk n 0 (by omega)
  rw [flt_0, m_set_self hh] at e
  exact e
/-- all of an array is written -/
def stA (C : Ct) (k : Nat) (g : Nat → Int32) : Ct := fun k' => if k' = k then g else C k'
theorem stA_k {C : Ct} {k : Nat} {g : Nat → Int32} : stA C k g k = g := if_pos rfl
theorem stA_f {C : Ct} {k k' : Nat} {g : Nat → Int32} (h : k' ≠ k) : stA C k g k' = C k' := if_neg h
theorem stA_r {C : Ct} {k k' j : Nat} {g : Nat → Int32} : stA C k g k' j = if k' = k then g j else C k' j := by
  unfold stA; split <;> rfl
theorem st_eq {C : Ct} {k i : Nat} {v : Int32} : st C k i v = stA C k (upd (C k) i v) := rfl
theorem oth_stA {w h k j : Nat} {C : Ct} {J : Nat → Int64} {g : Nat → Int32} (hk : kd k = 1 ∨ kd k = 2) : oth w h (stA C k g) J j = oth w h C J j := by
  have h0 : k ≠ 0 ∧ k ≠ 1 ∧ k ≠ 23 ∧ k ≠ 29 ∧ k ≠ 169 := by
    refine ⟨?_, ?_, ?_, ?_, ?_⟩ <;> (rintro rfl; revert hk; decide)
  unfold oth
  split <;> simp [stA, Ne.symm h0.1, Ne.symm h0.2.1, Ne.symm h0.2.2.1, Ne.symm h0.2.2.2.1, Ne.symm h0.2.2.2.2]
theorem hp_stA {F : Fx} {C : Ct} {J : Nat → Int64} {G : Ex} {k n : Nat} {g : Nat → Int32} (hk : kd k = 1) (hn : n = ln (F.1 * F.2.1) k) : m_set (hp F C J G) k (mI n g) = hp F (stA C k g) J G := by
  have hlt := kd_lt (Or.inl hk)
  refine set_ext rfl ?_ (fun j hj => ?_)
  · show hf F (stA C k g) J G k = _
    rw [hf_lt hlt, sh, hk, stA_k, hn]
    rfl
  · show hf F (stA C k g) J G j = hf F C J G j
    by_cases q : j < 194
    · rw [hf_lt q, hf_lt q]
      unfold sh
      rw [oth_stA (Or.inl hk), stA_f hj]
    · exact hf_ge q
theorem hp_at {F : Fx} {C : Ct} {J : Nat → Int64} {G : Ex} {k n : Nat} (hk : kd k = 1) (hn : n = ln (F.1 * F.2.1) k) : (hp F C J G).1 k = mI n (C k) := by
  show hf F C J G k = _
  rw [hf_lt (kd_lt (Or.inl hk)), sh, hk, hn]
  rfl
/-- Arrays.fill on one of the arrays -/
theorem Y_fillC {F : Fx} {C : Ct} {J : Nat → Int64} {G : Ex} {k n : Nat} {v : Int32} (hk : kd k = 1) (hn : n = ln (F.1 * F.2.1) k) (hn2 : n < 2 ^ 31) : Yd y_Arrays_fill [.ref k, .int v] (hp F C J G) (.inl none) (hp F (stA C k (flt (C k) v n)) J G) := by
  have h := Y_fill (v := v) (hp_at (J := J) (G := G) (C := C) hk hn) (Nat.lt_trans (kd_lt (Or.inl hk)) (by decide)) hn2
  rw [hp_stA hk hn] at h
  exact h
theorem kd_row : ∀ e, e < 9 → kd (12 + e) = 1 ∧ lc (12 + e) = 0 := by decide
theorem kd_ss : ∀ p, p < 60 → kd (39 + p) = 1 ∧ lc (39 + p) = 0 := by decide
theorem kd_sc : ∀ p, p < 60 → kd (100 + p) = 1 ∧ lc (100 + p) = 0 := by decide
theorem ln_0 {n k : Nat} (h : lc k = 0) : n = ln n k := by unfold ln; rw [h]; rfl
end
section
/-! WALKING NUMBERS, without a machine: a search from the goals outward finds the least numbers of steps -/
/-- c is at most k steps from a goal -/
def Rch (n : Nat) (nb : Nat → Nat → Option Nat) (goal op : Nat → Prop) : Nat → Nat → Prop
  | 0, c => c < n ∧ goal c
  | k + 1, c => Rch n nb goal op k c ∨ (op c ∧ ∃ w d, w < 4 ∧ nb c w = some d ∧ Rch n nb goal op k d)
/-- d is c's number -/
def Num (n : Nat) (nb : Nat → Nat → Option Nat) (goal op : Nat → Prop) (c d : Nat) : Prop := Rch n nb goal op d c ∧ ∀ k, k < d → ¬ Rch n nb goal op k c
theorem Num.uniq {n : Nat} {nb : Nat → Nat → Option Nat} {goal op : Nat → Prop} {c d d' : Nat} (h : Num n nb goal op c d) (h' : Num n nb goal op c d') : d = d' := by
  rcases Nat.lt_trichotomy d d' with q | q | q
  · exact absurd h.1 (h'.2 d q)
  · exact q
  · exact absurd h'.1 (h.2 d' q)
theorem pig : ∀ (n : Nat) (l : List Nat), l.Nodup → (∀ x ∈ l, x < n) → l.length ≤ n := by
  intro n
  induction n with
  | zero =>
    intro l _ h
    cases l with
    | nil => simp
    | cons a t => exact absurd (h a List.mem_cons_self) (Nat.not_lt_zero a)
  | succ n ih =>
    intro l hd h
    have h1 := ih (l.erase n) (hd.erase n) (fun x hx => by
      have hm := (List.Nodup.mem_erase_iff hd).mp hx
      have := h x hm.2
      have := hm.1
      omega)
    by_cases hm : n ∈ l
    · rw [List.length_erase_of_mem hm] at h1
      omega
    · rw [List.erase_of_not_mem hm] at h1
      omega
section BFS
variable {n : Nat} {nb : Nat → Nat → Option Nat} {goal op : Nat → Prop}
/-- the search: the queue q, the place nx in it that is spread, its first w ways done; row, dn: the numbers so far -/
def Bf (n : Nat) (nb : Nat → Nat → Option Nat) (goal op : Nat → Prop) (q : List Nat) (nx w : Nat) (row : Nat → Int32) (dn : Nat → Nat) : Prop :=
  q.Nodup ∧ (∀ c ∈ q, c < n) ∧ (∀ c, c < n → c ∉ q → row c = -1) ∧ (∀ c ∈ q, row c = nI (dn c) ∧ Rch n nb goal op (dn c) c) ∧ (∀ i, i < q.length → dn (q.getD i 0) ≤ i) ∧
  (∀ i j, i ≤ j → j < q.length → dn (q.getD i 0) ≤ dn (q.getD j 0)) ∧ (nx < q.length → ∀ j, j < q.length → dn (q.getD j 0) ≤ dn (q.getD nx 0) + 1) ∧
  (∀ i w', i < q.length → (i < nx ∨ (i = nx ∧ w' < w)) → w' < 4 → ∀ o, nb (q.getD i 0) w' = some o → o ∈ q ∧ dn o ≤ dn (q.getD i 0) + 1) ∧ (∀ c, c < n → goal c → c ∈ q ∧ dn c = 0) ∧ nx ≤ q.length
theorem getD_mem {q : List Nat} {i : Nat} (h : i < q.length) : q.getD i 0 ∈ q := by
  rw [List.getD_eq_getElem?_getD, List.getElem?_eq_getElem h]; exact List.getElem_mem h
theorem mem_getD {q : List Nat} {c : Nat} (h : c ∈ q) : ∃ i, i < q.length ∧ q.getD i 0 = c := by
  obtain ⟨i, hi, e⟩ := List.mem_iff_getElem.mp h
  exact ⟨i, hi, by rw [List.getD_eq_getElem?_getD, List.getElem?_eq_getElem hi]; exact e⟩
theorem getD_app {q : List Nat} {o i : Nat} (h : i < q.length) : (q ++ [o]).getD i 0 = q.getD i 0 := by
  rw [List.getD_eq_getElem?_getD, List.getD_eq_getElem?_getD, List.getElem?_append_left h]
theorem getD_last {q : List Nat} {o : Nat} : (q ++ [o]).getD q.length 0 = o := by
  rw [List.getD_eq_getElem?_getD, List.getElem?_append_right (Nat.le_refl _)]; simp
theorem Bf.skip {q : List Nat} {nx w : Nat} {row : Nat → Int32} {dn : Nat → Nat} (B : Bf n nb goal op q nx w row dn) (hx : nx < q.length) (h : ∀ o, nb (q.getD nx 0) w = some o → o ∈ q) : Bf n nb goal op q nx (w + 1) row dn := by
  obtain ⟨b1, b2, b3, b4, b5, b6, b7, b8, b9, b10⟩ := B
  refine ⟨b1, b2, b3, b4, b5, b6, b7, fun i w' hi hw hw4 o ho => ?_, b9, b10⟩
  by_cases e : i = nx ∧ w' = w
  · obtain ⟨rfl, rfl⟩ := e
    have hm := h o ho
    obtain ⟨j, hj, ej⟩ := mem_getD hm
    exact ⟨hm, by rw [← ej]; exact b7 hx j hj⟩
  · exact b8 i w' hi (by omega) hw4 o ho
theorem Bf.add {q : List Nat} {nx w o : Nat} {row : Nat → Int32} {dn : Nat → Nat} (B : Bf n nb goal op q nx w row dn) (hx : nx < q.length) (hw : w < 4) (h : nb (q.getD nx 0) w = some o) (ho : o ∉ q) (hon : o < n) (hop : op o) (hsym : ∃ w', w' < 4 ∧ nb o w' = some (q.getD nx 0)) :
    Bf n nb goal op (q ++ [o]) nx (w + 1) (fun c => if c = o then nI (dn (q.getD nx 0) + 1) else row c) (fun c => if c = o then dn (q.getD nx 0) + 1 else dn c) := by
  obtain ⟨b1, b2, b3, b4, b5, b6, b7, b8, b9, b10⟩ := B
  have hne : ∀ c ∈ q, c ≠ o := fun c hc e => ho (e ▸ hc)
  have hold : ∀ i, i < q.length → (fun c => if c = o then dn (q.getD nx 0) + 1 else dn c) ((q ++ [o]).getD i 0) = dn (q.getD i 0) := fun i hi => by
    rw [getD_app hi]
    exact if_neg (hne _ (getD_mem hi))
  have hnew : (fun c => if c = o then dn (q.getD nx 0) + 1 else dn c) ((q ++ [o]).getD q.length 0) = dn (q.getD nx 0) + 1 := by
    rw [getD_last]; exact if_pos rfl
  have hlen : (q ++ [o]).length = q.length + 1 := by simp
  have hup : ∀ j, j < q.length + 1 → (fun c => if c = o then dn (q.getD nx 0) + 1 else dn c) ((q ++ [o]).getD j 0) ≤ dn (q.getD nx 0) + 1 := fun j hj => by
    rcases Nat.lt_or_ge j q.length with hl | hl
    · rw [hold j hl]; exact b7 hx j hl
    · have : j = q.length := by omega
      subst this
      rw [hnew]; exact Nat.le_refl _
  refine ⟨?_, ?_, ?_, ?_, ?_, ?_, ?_, ?_, ?_, ?_⟩
  · rw [List.nodup_append]
    exact ⟨b1, by simp, fun a ha b hb => by simp at hb; rw [hb]; exact hne a ha⟩
  · intro c hc
    rcases List.mem_append.mp hc with hc | hc
    · exact b2 c hc
    · simp at hc; rw [hc]; exact hon
  · intro c hc hq
    have h1 : c ∉ q := fun hm => hq (List.mem_append_left _ hm)
    have h2 : c ≠ o := fun e => hq (by rw [e]; simp)
    show (if c = o then _ else row c) = -1
    rw [if_neg h2]; exact b3 c hc h1
  · intro c hc
    show (if c = o then _ else row c) = nI (if c = o then _ else dn c) ∧ Rch n nb goal op (if c = o then _ else dn c) c
    by_cases e : c = o
    · subst e
      rw [if_pos rfl, if_pos rfl]
      obtain ⟨w', hw', hs⟩ := hsym
      exact ⟨rfl, Or.inr ⟨hop, w', _, hw', hs, (b4 _ (getD_mem hx)).2⟩⟩
    · rw [if_neg e, if_neg e]
      rcases List.mem_append.mp hc with hc | hc
      · exact b4 c hc
      · simp at hc; exact absurd hc e
  · intro i hi
    rw [hlen] at hi
    rcases Nat.lt_or_ge i q.length with hl | hl
    · rw [hold i hl]; exact b5 i hl
    · have : i = q.length := by omega
      subst this
      rw [hnew]
      have := b5 nx hx
      omega
  · intro i j hij hj
    rw [hlen] at hj
    rcases Nat.lt_or_ge j q.length with hl | hl
    · rw [hold i (by omega), hold j hl]; exact b6 i j hij hl
    · have : j = q.length := by omega
      subst this
      rw [hnew]
      exact hup i (by omega)
  · intro _ j hj
    rw [hlen] at hj
    rw [hold nx hx]
    exact hup j hj
  · intro i w' hi hh hw4 o' ho'
    rw [hlen] at hi
    have hi' : i < q.length := by omega
    rw [hold i hi']
    rw [getD_app hi'] at ho'
    by_cases e : i = nx ∧ w' = w
    · obtain ⟨rfl, rfl⟩ := e
      rw [h] at ho'
      cases ho'
      exact ⟨by simp, by show (if o = o then _ else _) ≤ _; rw [if_pos rfl]; exact Nat.le_refl _⟩
    · obtain ⟨g1, g2⟩ := b8 i w' hi' (by omega) hw4 o' ho'
      exact ⟨List.mem_append_left _ g1, by show (if o' = o then _ else dn o') ≤ _; rw [if_neg (hne _ g1)]; exact g2⟩
  · intro c hc hg
    obtain ⟨g1, g2⟩ := b9 c hc hg
    exact ⟨List.mem_append_left _ g1, by show (if c = o then _ else dn c) = 0; rw [if_neg (hne _ g1)]; exact g2⟩
  · rw [hlen]; omega
theorem Bf.next {q : List Nat} {nx : Nat} {row : Nat → Int32} {dn : Nat → Nat} (B : Bf n nb goal op q nx 4 row dn) (hx : nx < q.length) : Bf n nb goal op q (nx + 1) 0 row dn := by
  obtain ⟨b1, b2, b3, b4, b5, b6, b7, b8, b9, b10⟩ := B
  refine ⟨b1, b2, b3, b4, b5, b6, fun hn j hj => ?_, fun i w' hi hh hw4 o ho => ?_, b9, hx⟩
  · have := b7 hx j hj
    have := b6 nx (nx + 1) (by omega) hn
    omega
  · exact b8 i w' hi (by omega) hw4 o ho
theorem Bf.len {q : List Nat} {nx w : Nat} {row : Nat → Int32} {dn : Nat → Nat} (B : Bf n nb goal op q nx w row dn) : q.length ≤ n := pig n q B.1 B.2.1
theorem Bf.room {q : List Nat} {nx w o : Nat} {row : Nat → Int32} {dn : Nat → Nat} (B : Bf n nb goal op q nx w row dn) (ho : o ∉ q) (hon : o < n) : q.length < n := by
  have := pig n (q ++ [o]) (by rw [List.nodup_append]; exact ⟨B.1, by simp, fun a ha b hb => by simp at hb; rw [hb]; exact fun e => ho (e ▸ ha)⟩) (fun c hc => by
    rcases List.mem_append.mp hc with hc | hc
    · exact B.2.1 c hc
    · simp at hc; rw [hc]; exact hon)
  simp at this
  omega
/-- at the end all numbers are found -/
theorem Bf.fin {q : List Nat} {w : Nat} {row : Nat → Int32} {dn : Nat → Nat} (B : Bf n nb goal op q q.length w row dn) (hnb : ∀ c w d, c < n → w < 4 → nb c w = some d → d < n ∧ op d) (hsym : ∀ c w d, op c → c < n → w < 4 → nb c w = some d → ∃ w', w' < 4 ∧ nb d w' = some c) (c : Nat) (hc : c < n) :
    (row c = -1 ∧ ∀ k, ¬ Rch n nb goal op k c) ∨ ∃ d, d < n ∧ row c = nI d ∧ Num n nb goal op c d := by
  obtain ⟨b1, b2, b3, b4, b5, b6, b7, b8, b9, b10⟩ := id B
  have key : ∀ k c, c < n → Rch n nb goal op k c → c ∈ q ∧ dn c ≤ k := by
    intro k
    induction k with
    | zero =>
      intro c hc h
      obtain ⟨g1, g2⟩ := b9 c hc h.2
      exact ⟨g1, by omega⟩
    | succ k ih =>
      intro c hc h
      rcases h with h | ⟨ho, w', d, hw', hd, h⟩
      · obtain ⟨g1, g2⟩ := ih c hc h
        exact ⟨g1, by omega⟩
      · obtain ⟨g1, g2⟩ := ih d (hnb _ _ _ hc hw' hd).1 h
        obtain ⟨w2, hw2, hs⟩ := hsym c w' d ho hc hw' hd
        obtain ⟨i, hi, ei⟩ := mem_getD g1
        rw [← ei] at hs
        obtain ⟨g3, g4⟩ := b8 i w2 hi (Or.inl hi) hw2 c hs
        rw [ei] at g4
        exact ⟨g3, by omega⟩
  by_cases hm : c ∈ q
  · right
    obtain ⟨i, hi, ei⟩ := mem_getD hm
    have h5 := b5 i hi
    rw [ei] at h5
    have := B.len
    refine ⟨dn c, by omega, (b4 c hm).1, (b4 c hm).2, fun k hk hr => ?_⟩
    have := (key k c hc hr).2
    omega
  · exact Or.inl ⟨b3 c hc hm, fun k hr => hm (key k c hc hr).1⟩
end BFS
end
section
/-! the class's walking numbers -/
/-- the open cell beside -/
def nbC (C : Ct) (c w : Nat) : Option Nat := if opB C c w = -1 then none else some (opB C c w).toNatClampNeg
def opC (C : Ct) (c : Nat) : Prop := ¬ C 2 c = 1
/-- the contents while the row e is found -/
def hB (C : Ct) (e : Nat) (row qf : Nat → Int32) : Ct := stA (stA C (12 + e) row) 22 qf
section
variable {F : Fx} {C : Ct} {J : Nat → Int64} {G : Ex} {e : Nat} {row qf : Nat → Int32}
theorem nI_nm1 {a : Nat} (h : a < 2 ^ 31) : ¬ nI a = -1 := by
  intro q
  have := nI_pos h
  rw [q] at this
  exact this (by decide)
theorem hB_row (he : e < 9) : hB C e row qf (12 + e) = row := by
  unfold hB; rw [stA_f (by omega), stA_k]
theorem hB_q : hB C e row qf 22 = qf := stA_k
theorem hB_o {k : Nat} (h1 : k ≠ 12 + e) (h2 : k ≠ 22) : hB C e row qf k = C k := by
  unfold hB; rw [stA_f h2, stA_f h1]
theorem hB_atr (he : e < 9) : (hp F (hB C e row qf) J G).1 (12 + e) = mI (F.1 * F.2.1) row := by
  rw [hp_at (kd_row e he).1 (ln_0 (kd_row e he).2), hB_row he]
theorem hB_atq : (hp F (hB C e row qf) J G).1 22 = mI (F.1 * F.2.1) qf := by
  rw [hp_at (k := 22) (n := F.1 * F.2.1) rfl rfl, hB_q]
theorem hB_sr (he : e < 9) (r' : Nat → Int32) : stA (hB C e row qf) (12 + e) r' = hB C e r' qf := by
  funext k
  unfold hB stA
  by_cases h1 : k = 12 + e
  · rw [if_pos h1, if_neg (by omega), if_pos h1]
  · rw [if_neg h1]
    by_cases h2 : k = 22
    · rw [if_pos h2, if_pos h2]
    · rw [if_neg h2, if_neg h2, if_neg h1, if_neg h1]
theorem hB_sq (q' : Nat → Int32) : stA (hB C e row qf) 22 q' = hB C e row q' := by
  funext k
  unfold hB stA
  by_cases h2 : k = 22
  · rw [if_pos h2, if_pos h2]
  · rw [if_neg h2, if_neg h2, if_neg h2]
theorem hB_op (he : e < 9) (c w : Nat) : opB (hB C e row qf) c w = opB C c w := by
  unfold opB
  rw [hB_o (k := 9) (by omega) (by omega), hB_o (k := 2) (by omega) (by omega)]
theorem hB_okB (he : e < 9) (h : okB F C) : okB F (hB C e row qf) := by
  unfold okB
  rw [hB_o (k := 9) (by omega) (by omega)]
  exact h
theorem opB_cases (hn : F.1 * F.2.1 ≤ 576) (hB : okB F C) {c w : Nat} (hc : c < F.1 * F.2.1) (hw : w < 4) : (opB C c w = -1 ∧ nbC C c w = none) ∨ ∃ d, d < F.1 * F.2.1 ∧ opB C c w = nI d ∧ nbC C c w = some d ∧ opC C d ∧ C 9 (c * 4 + w) = nI d := by
  unfold nbC
  by_cases h : opB C c w = -1
  · exact Or.inl ⟨h, if_pos h⟩
  · right
    rw [if_neg h]
    unfold opB at h ⊢
    split at h
    · exact absurd rfl h
    · rename_i h2
      rw [if_neg h2]
      rcases hB c hc w hw with q | ⟨d, hd, q⟩
      · exact absurd (Or.inl q) h2
      · have hd2 : d < 2 ^ 31 := by omega
        refine ⟨d, hd, q, by rw [q, nI_clamp hd2], fun hw => h2 (Or.inr (by rw [q, nI_clamp hd2]; exact hw)), q⟩
theorem Y_spread_loop {goal : Nat → Prop} {q0 : List Nat} {c nx : Nat} {qd : Int32} {Q : mE → mH → Prop} (hF : okF F) (hB0 : okB F C) (he : e < 9) (hx0 : nx < q0.length) (hc0 : q0.getD nx 0 = c) (hcn : c < F.1 * F.2.1) (hco : opC C c)
    (hsym : ∀ c w d, opC C c → c < F.1 * F.2.1 → w < 4 → nbC C c w = some d → ∃ w', w' < 4 ∧ nbC C d w' = some c)
    (kk : ∀ (q : List Nat) (row qf : Nat → Int32) (dn : Nat → Nat), Bf (F.1 * F.2.1) (nbC C) goal (opC C) q nx 4 row dn → (∀ i, i < q.length → qf i = nI (q.getD i 0)) → q0.length ≤ q.length → (∀ i, i < q0.length → q.getD i 0 = q0.getD i 0) → Q (.inl (some (.int (nI q.length)))) (hp F (hB C e row qf) J G)) :
    ∀ (d w : Nat), w + d = 4 → ∀ (q : List Nat) (row qf : Nat → Int32) (dn : Nat → Nat) (o6 : Option Value), Bf (F.1 * F.2.1) (nbC C) goal (opC C) q nx w row dn → (∀ i, i < q.length → qf i = nI (q.getD i 0)) → q0.length ≤ q.length → (∀ i, i < q0.length → q.getD i 0 = q0.getD i 0) →
      X y_Numbers_spread 6 [some (.ref 10), some (.int (nI c)), some (.ref (12 + e)), some (.int qd), some (.int (nI q.length)), some (.int (nI w)), o6] [] (hp F (hB C e row qf) J G) Q := by
  have hn := hF.n
  intro d
  induction d with
  | zero =>
    intro w hw q row qf dn o6 B hq hl hpre
    have : w = 4 := by omega
    subst this
    iterate 2 (refine X_s rfl rfl ?_)
    refine X_bt rfl rfl rfl (Int32.le_refl _) ?_
    refine X_s rfl rfl ?_
    exact X_r rfl rfl rfl rfl (kk q row qf dn B hq hl hpre)
  | succ d ih =>
    intro w hw q row qf dn o6 B hq hl hpre
    have hxq : nx < q.length := by omega
    have hcq : q.getD nx 0 = c := by rw [hpre nx hx0, hc0]
    have hlen := B.len
    iterate 2 (refine X_s rfl rfl ?_)
    refine X_bf rfl rfl rfl (nI_ge (b := 4) (show w < 4 by omega) (by decide)) ?_
    iterate 4 (refine X_s rfl rfl ?_)
    refine X_cd rfl rfl rfl rfl (Y_openBeside hF (hB_okB he hB0) hcn (show w < 4 by omega)) ?_
    rw [hB_op he]
    have again : ∀ (q : List Nat) (row qf : Nat → Int32) (dn : Nat → Nat) (o6 : Option Value), Bf (F.1 * F.2.1) (nbC C) goal (opC C) q nx (w + 1) row dn → (∀ i, i < q.length → qf i = nI (q.getD i 0)) → q0.length ≤ q.length → (∀ i, i < q0.length → q.getD i 0 = q0.getD i 0) →
        X y_Numbers_spread 69 [some (.ref 10), some (.int (nI c)), some (.ref (12 + e)), some (.int qd), some (.int (nI q.length)), some (.int (nI w)), o6] [] (hp F (hB C e row qf) J G) Q := by
      intro q row qf dn o6 B hq hl hpre
      iterate 2 (refine X_s rfl rfl ?_)
      have h := ih (w + 1) (by omega) q row qf dn o6 B hq hl hpre
      rw [← nI_1'] at h
      exact h
    rcases opB_cases hn hB0 hcn (show w < 4 by omega) with ⟨e1, e2⟩ | ⟨o, ho, e1, e2, e3, -⟩
    · rw [e1]
      iterate 3 (refine X_s rfl rfl ?_)
      refine X_bt rfl rfl rfl (show (-1 : Int32) = -1 from rfl) ?_
      exact again q row qf dn _ (B.skip hxq (fun o ho => by rw [hcq, e2] at ho; cases ho)) hq hl hpre
    · rw [e1]
      iterate 3 (refine X_s rfl rfl ?_)
      refine X_bf rfl rfl rfl (show ¬ nI o = -1 from nI_nm1 (by omega)) ?_
      iterate 2 (refine X_s rfl rfl ?_)
      refine X_li rfl (hB_atr he) rfl ho (by omega) ?_
      refine X_s rfl rfl ?_
      by_cases hm : o ∈ q
      · have hro : row o = nI (dn o) := (B.2.2.2.1 o hm).1
        have hdo : dn o < F.1 * F.2.1 := by
          obtain ⟨i, hi, ei⟩ := mem_getD hm
          have := B.2.2.2.2.1 i hi
          rw [ei] at this
          omega
        refine X_bt rfl rfl rfl (show ¬ row o = -1 from by rw [hro]; exact nI_nm1 (by omega)) ?_
        exact again q row qf dn _ (B.skip hxq (fun o' ho' => by rw [hcq, e2] at ho'; cases ho'; exact hm)) hq hl hpre
      · have hro : row o = -1 := B.2.2.1 o ho hm
        have hroom := B.room hm ho
        refine X_bf rfl rfl rfl (fun hh => hh hro) ?_
        iterate 3 (refine X_s rfl rfl ?_)
        refine X_len rfl hB_atq ?_
        refine X_bf rfl rfl rfl (nI_ge hroom (show F.1 * F.2.1 < 2 ^ 31 by omega)) ?_
        iterate 4 (refine X_s rfl rfl ?_)
        refine X_li rfl (hB_atr he) rfl hcn (by omega) ?_
        iterate 2 (refine X_s rfl rfl ?_)
        have hrc : row c = nI (dn c) := (B.2.2.2.1 c (by rw [← hcq]; exact getD_mem hxq)).1
        rw [hrc, nI_1']
        refine X_ti rfl (hB_atr he) (by omega) rfl ho (by omega) ?_
        refine X_h (hp_stA (kd_row e he).1 (ln_0 (kd_row e he).2)) ?_
        rw [hB_sr he]
        iterate 4 (refine X_s rfl rfl ?_)
        refine X_ti rfl hB_atq (by omega) rfl hroom (show F.1 * F.2.1 < 2 ^ 31 by omega) ?_
        refine X_h (hp_stA (k := 22) rfl rfl) ?_
        rw [hB_sq]
        refine X_s rfl rfl ?_
        have B2 := B.add hxq (show w < 4 by omega) (by rw [hcq]; exact e2) hm ho e3 (by rw [hcq]; exact hsym c w o hco hcn (by omega) e2)
        rw [hcq] at B2
        have h := again (q ++ [o]) (upd row o (nI (dn c + 1))) (upd qf q.length (nI o)) _ (some (.int (nI o))) B2 (fun i hi => by
          simp only [List.length_append, List.length_singleton] at hi
          rcases Nat.lt_or_ge i q.length with hl2 | hl2
          · rw [getD_app hl2]
            show (if i = q.length then _ else qf i) = _
            rw [if_neg (by omega)]; exact hq i hl2
          · have : i = q.length := by omega
            subst this
            rw [getD_last]
            exact if_pos rfl) (by simp; omega) (fun i hi => by rw [getD_app (by omega)]; exact hpre i hi)
        rw [List.length_append, List.length_singleton, ← nI_1'] at h
        exact h
end
end
section
/-! Numbers.find -/
theorem Bf_init {n : Nat} {nb : Nat → Nat → Option Nat} {goal op : Nat → Prop} {q : List Nat} {row : Nat → Int32} (h1 : q.Nodup) (h2 : ∀ c ∈ q, c < n) (h3 : ∀ c, c < n → c ∉ q → row c = -1) (h4 : ∀ c ∈ q, row c = 0) (h5 : ∀ c, c < n → (goal c ↔ c ∈ q)) : Bf n nb goal op q 0 0 row (fun _ => 0) :=
  ⟨h1, h2, h3, fun c hc => ⟨h4 c hc, h2 c hc, (h5 c (h2 c hc)).mpr hc⟩, fun i _ => Nat.zero_le i, fun _ _ _ _ => Nat.le_refl 0, fun _ _ _ => Nat.zero_le _, fun i w' hi hh _ o ho => by omega, fun c hc hg => ⟨(h5 c hc).mp hg, rfl⟩, Nat.zero_le _⟩
/-- the storey's own truth: what is beside is so both ways; the exits and their cells -/
def okS (F : Fx) (C : Ct) : Prop :=
  okB F C ∧ (∀ c, c < F.1 * F.2.1 → ∀ w, w < 4 → ∀ d, d < F.1 * F.2.1 → C 9 (c * 4 + w) = nI d → ∃ w', w' < 4 ∧ C 9 (d * 4 + w') = nI c) ∧
  ∃ X, X ≤ 8 ∧ C 1 11 = nI X ∧ (∀ x, x < X → C 6 x = -1 ∨ ∃ c, c < F.1 * F.2.1 ∧ C 6 x = nI c ∧ C 5 c = nI x ∧ C 2 c = 2) ∧ (∀ c, c < F.1 * F.2.1 → (C 5 c = -1 ∧ ¬ C 2 c = 2) ∨ ∃ x, x < X ∧ C 5 c = nI x ∧ C 6 x = nI c ∧ C 2 c = 2)
/-- the goals of a row: g is -1 for all exits, or an exit's number -/
def glC (C : Ct) (g : Int32) (c : Nat) : Prop := ∃ x, nI x < C 1 11 ∧ x < 8 ∧ C 6 x = nI c ∧ (g = -1 ∨ g = nI x)
theorem rch_op {n : Nat} {nb : Nat → Nat → Option Nat} {goal op : Nat → Prop} (hg : ∀ c, c < n → goal c → op c) : ∀ k c, Rch n nb goal op (k + 1) c → op c := by
  intro k
  induction k with
  | zero =>
    rintro c (h | h)
    · exact hg c h.1 h.2
    · exact h.1
  | succ k ih =>
    rintro c (h | h)
    · exact ih c h
    · exact h.1
section
variable {F : Fx} {C : Ct} {J : Nat → Int64} {G : Ex} {e : Nat} {row qf : Nat → Int32}
theorem okS.sym (hF : okF F) (h : okS F C) : ∀ c w d, opC C c → c < F.1 * F.2.1 → w < 4 → nbC C c w = some d → ∃ w', w' < 4 ∧ nbC C d w' = some c := by
  intro c w d ho hc hw hd
  have hn := hF.n
  rcases opB_cases hn h.1 hc hw with ⟨-, e2⟩ | ⟨d', hd', e1, e2, e3, e4⟩
  · rw [hd] at e2; cases e2
  · rw [hd] at e2; cases e2
    obtain ⟨w', hw', e5⟩ := h.2.1 c hc w hw d hd' e4
    refine ⟨w', hw', ?_⟩
    have ec : (C 9 (d * 4 + w')).toNatClampNeg = c := by rw [e5, nI_clamp (by omega)]
    have e6 : opB C d w' = nI c := by
      unfold opB
      rw [if_neg, e5]
      rintro (q | q)
      · rw [e5] at q; exact nI_nm1 (by omega) q
      · rw [ec] at q; exact ho q
    unfold nbC
    rw [e6, if_neg (nI_nm1 (by omega)), nI_clamp (by omega)]
theorem nbC_in (hF : okF F) (h : okS F C) {c w d : Nat} (hc : c < F.1 * F.2.1) (hw : w < 4) (hd : nbC C c w = some d) : d < F.1 * F.2.1 ∧ opC C d := by
  rcases opB_cases hF.n h.1 hc hw with ⟨-, e2⟩ | ⟨d', hd', e1, e2, e3, e4⟩
  · rw [hd] at e2; cases e2
  · rw [hd] at e2; cases e2
    exact ⟨hd', e3⟩
theorem hB_start (he : e < 9) : stA C (12 + e) row = hB C e row (C 22) := by
  funext k
  unfold hB stA
  by_cases h2 : k = 22
  · subst h2; rw [if_neg (by omega), if_pos rfl]
  · rw [if_neg h2]
/-- the answer: all numbers of the row -/
def rowOk (F : Fx) (C : Ct) (g : Int32) (row : Nat → Int32) : Prop := ∀ c, c < F.1 * F.2.1 → (row c = -1 ∧ ∀ k, ¬ Rch (F.1 * F.2.1) (nbC C) (glC C g) (opC C) k c) ∨ ∃ d, d < F.1 * F.2.1 ∧ row c = nI d ∧ Num (F.1 * F.2.1) (nbC C) (glC C g) (opC C) c d
/-- the second loop: the queue is spread, one after the other -/
theorem Y_find_loop2 {g : Int32} {Q : mE → mH → Prop} (hF : okF F) (hS : okS F C) (he : e < 9) (hgo : ∀ c, c < F.1 * F.2.1 → glC C g c → opC C c)
    (kk : ∀ (row qf : Nat → Int32), rowOk F C g row → Q (.inl none) (hp F (hB C e row qf) J G)) :
    ∀ (d nx : Nat), nx + d = F.1 * F.2.1 → ∀ (q : List Nat) (row qf : Nat → Int32) (dn : Nat → Nat) (o5 : Option Value), Bf (F.1 * F.2.1) (nbC C) (glC C g) (opC C) q nx 0 row dn → (∀ i, i < q.length → qf i = nI (q.getD i 0)) →
      X y_Numbers_find 76 [some (.ref 10), some (.int g), some (.ref (12 + e)), some (.int (nI q.length)), some (.int (nI nx)), o5] [] (hp F (hB C e row qf) J G) Q := by
  have hn := hF.n
  have done : ∀ (q : List Nat) (nx : Nat) (row qf : Nat → Int32) (dn : Nat → Nat) (o5 : Option Value), Bf (F.1 * F.2.1) (nbC C) (glC C g) (opC C) q nx 0 row dn → nx = q.length → X y_Numbers_find 112 [some (.ref 10), some (.int g), some (.ref (12 + e)), some (.int (nI q.length)), some (.int (nI nx)), o5] [] (hp F (hB C e row qf) J G) Q := by
    intro q nx row qf dn o5 B hnx
    subst hnx
    exact X_r rfl rfl rfl rfl (kk row qf (fun c hc => B.fin (fun c w d hc hw hd => nbC_in hF hS hc hw hd) (hS.sym hF) c hc))
  intro d
  induction d with
  | zero =>
    intro nx hd q row qf dn o5 B hq
    have hlen := B.len
    have hle : nx ≤ q.length := B.2.2.2.2.2.2.2.2.2
    have : nx = q.length := by omega
    iterate 2 (refine X_s rfl rfl ?_)
    refine X_bt rfl rfl rfl (show nI q.length ≤ nI nx by rw [this]; exact Int32.le_refl _) ?_
    exact done q nx row qf dn o5 B this
  | succ d ih =>
    intro nx hd q row qf dn o5 B hq
    have hlen := B.len
    have hle : nx ≤ q.length := B.2.2.2.2.2.2.2.2.2
    rcases Nat.lt_or_ge nx q.length with hx | hx
    · iterate 2 (refine X_s rfl rfl ?_)
      refine X_bf rfl rfl rfl (nI_ge hx (by omega)) ?_
      iterate 3 (refine X_s rfl rfl ?_)
      refine X_len rfl hB_atq ?_
      refine X_bf rfl rfl rfl (nI_ge (show nx < F.1 * F.2.1 by omega) (by omega)) ?_
      iterate 4 (refine X_s rfl rfl ?_)
      refine X_li rfl hB_atq rfl (show nx < F.1 * F.2.1 by omega) (by omega) ?_
      rw [hq nx hx]
      iterate 2 (refine X_s rfl rfl ?_)
      have hcn : q.getD nx 0 < F.1 * F.2.1 := B.2.1 _ (getD_mem hx)
      have hco : opC C (q.getD nx 0) := by
        have hr := (B.2.2.2.1 _ (getD_mem hx)).2
        cases hdn : dn (q.getD nx 0) with
        | zero => rw [hdn] at hr; exact hgo _ hr.1 hr.2
        | succ k => rw [hdn] at hr; exact rch_op hgo k _ hr
      refine X_c (Q' := fun o h' => ∃ (q2 : List Nat) (row2 qf2 : Nat → Int32) (dn2 : Nat → Nat), o = .inl (some (.int (nI q2.length))) ∧ h' = hp F (hB C e row2 qf2) J G ∧ Bf (F.1 * F.2.1) (nbC C) (glC C g) (opC C) q2 nx 4 row2 dn2 ∧ (∀ i, i < q2.length → qf2 i = nI (q2.getD i 0)) ∧ q.length ≤ q2.length) rfl rfl rfl rfl ?_ ?_ ?_
      · unfold Y
        iterate 4 (refine X_s rfl rfl ?_)
        exact Y_spread_loop (q0 := q) (c := q.getD nx 0) hF hS.1 he hx rfl hcn hco (hS.sym hF) (fun q2 row2 qf2 dn2 B2 hq2 hl2 _ => ⟨q2, row2, qf2, dn2, rfl, rfl, B2, hq2, hl2⟩) 4 0 (by omega) q row qf dn _ B hq (Nat.le_refl _) (fun _ _ => rfl)
      · rintro v h' ⟨q2, row2, qf2, dn2, e1, rfl, B2, hq2, hl2⟩
        cases e1
        iterate 3 (refine X_s rfl rfl ?_)
        have h := ih (nx + 1) (by omega) q2 row2 qf2 dn2 o5 (B2.next (by omega)) hq2
        rw [← nI_1'] at h
        exact h
      · rintro x h' ⟨q2, row2, qf2, dn2, e1, -⟩
        cases e1
    · have : nx = q.length := by omega
      iterate 2 (refine X_s rfl rfl ?_)
      refine X_bt rfl rfl rfl (show nI q.length ≤ nI nx by rw [this]; exact Int32.le_refl _) ?_
      exact done q nx row qf dn o5 B this
end
end
section
/-! Numbers.find: the goals; rowTo -/
section
variable {F : Fx} {C : Ct} {J : Nat → Int64} {G : Ex} {e : Nat} {row qf : Nat → Int32}
theorem Y_find_loop1 {g : Int32} {n8 : Nat} {Q : mE → mH → Prop} (hF : okF F) (hS : okS F C) (he : e < 9) (hX8 : n8 ≤ 8) (hX : C 1 11 = nI n8) (hE : ∀ x, x < n8 → C 6 x = -1 ∨ ∃ c, c < F.1 * F.2.1 ∧ C 6 x = nI c ∧ C 5 c = nI x ∧ C 2 c = 2)
    (kk : ∀ (q : List Nat) (row qf : Nat → Int32) (o5 : Option Value), Bf (F.1 * F.2.1) (nbC C) (glC C g) (opC C) q 0 0 row (fun _ => 0) → (∀ i, i < q.length → qf i = nI (q.getD i 0)) → X y_Numbers_find 76 [some (.ref 10), some (.int g), some (.ref (12 + e)), some (.int (nI q.length)), some (.int (nI 0)), o5] [] (hp F (hB C e row qf) J G) Q) :
    ∀ (d x : Nat), x + d = n8 → ∀ (q : List Nat) (row qf : Nat → Int32) (o5 : Option Value), q.Nodup → (∀ c, c ∈ q ↔ ∃ x', x' < x ∧ c < F.1 * F.2.1 ∧ C 6 x' = nI c ∧ (g = -1 ∨ g = nI x')) → (∀ c, c < F.1 * F.2.1 → row c = if c ∈ q then 0 else -1) → (∀ i, i < q.length → qf i = nI (q.getD i 0)) →
      X y_Numbers_find 10 [some (.ref 10), some (.int g), some (.ref (12 + e)), some (.int (nI q.length)), some (.int (nI x)), o5] [] (hp F (hB C e row qf) J G) Q := by
  have hn := hF.n
  intro d
  induction d with
  | zero =>
    intro x hx q row qf o5 h1 h2 h3 h4
    have : x = n8 := by omega
    subst this
    iterate 4 (refine X_s rfl rfl ?_)
    rw [hB_o (k := 1) (by omega) (by omega), hX]
    refine X_bt rfl rfl rfl (Int32.le_refl _) ?_
    iterate 2 (refine X_s rfl rfl ?_)
    refine kk q row qf o5 (Bf_init h1 (fun c hc => ?_) (fun c hc hq => ?_) (fun c hc => ?_) (fun c hc => ?_)) h4
    · obtain ⟨x', -, hcn, -⟩ := (h2 c).mp hc
      exact hcn
    · rw [h3 c hc, if_neg hq]
    · have hcn := (h2 c).mp hc
      obtain ⟨x', -, hcn, -⟩ := hcn
      rw [h3 c hcn, if_pos hc]
    · unfold glC
      rw [h2 c, hX]
      constructor
      · rintro ⟨x', hx', hx8, hc6, hg⟩
        exact ⟨x', (nI_ltI (by omega) (by omega)).mp hx', hc, hc6, hg⟩
      · rintro ⟨x', hx', -, hc6, hg⟩
        exact ⟨x', nI_lt hx' (by omega), by omega, hc6, hg⟩
  | succ d ih =>
    intro x hx q row qf o5 h1 h2 h3 h4
    have again : ∀ (q : List Nat) (row qf : Nat → Int32) (o5 : Option Value), q.Nodup → (∀ c, c ∈ q ↔ ∃ x', x' < x + 1 ∧ c < F.1 * F.2.1 ∧ C 6 x' = nI c ∧ (g = -1 ∨ g = nI x')) → (∀ c, c < F.1 * F.2.1 → row c = if c ∈ q then 0 else -1) → (∀ i, i < q.length → qf i = nI (q.getD i 0)) →
        X y_Numbers_find 67 [some (.ref 10), some (.int g), some (.ref (12 + e)), some (.int (nI q.length)), some (.int (nI x)), o5] [] (hp F (hB C e row qf) J G) Q := by
      intro q row qf o5 g1 g2 g3 g4
      iterate 2 (refine X_s rfl rfl ?_)
      have h := ih (x + 1) (by omega) q row qf o5 g1 g2 g3 g4
      rw [← nI_1'] at h
      exact h
    have skip : (¬ ∃ c, c < F.1 * F.2.1 ∧ C 6 x = nI c ∧ (g = -1 ∨ g = nI x)) → ∀ c, c ∈ q ↔ ∃ x', x' < x + 1 ∧ c < F.1 * F.2.1 ∧ C 6 x' = nI c ∧ (g = -1 ∨ g = nI x') := by
      intro hno c
      rw [h2 c]
      constructor
      · rintro ⟨x', hx', r⟩; exact ⟨x', by omega, r⟩
      · rintro ⟨x', hx', r1, r2, r3⟩
        by_cases e9 : x' = x
        · subst e9; exact absurd ⟨c, r1, r2, r3⟩ hno
        · exact ⟨x', by omega, r1, r2, r3⟩
    iterate 4 (refine X_s rfl rfl ?_)
    rw [hB_o (k := 1) (by omega) (by omega), hX]
    refine X_bf rfl rfl rfl (nI_ge (show x < n8 by omega) (by omega)) ?_
    iterate 4 (refine X_s rfl rfl ?_)
    refine X_ln rfl rfl rfl rfl rfl (show x < 8 by omega) (show 8 < 2 ^ 31 by omega) ?_
    rw [hB_o (k := 6) (by omega) (by omega)]
    iterate 3 (refine X_s rfl rfl ?_)
    rcases hE x (by omega) with e6 | ⟨c, hc, e6, e5, e2⟩
    · rw [e6]
      refine X_bt rfl rfl rfl (show (-1 : Int32) = -1 from rfl) ?_
      exact again q row qf _ h1 (skip (fun ⟨c, hc, ec, _⟩ => by rw [e6] at ec; exact nI_nm1 (a := c) (by omega) ec.symm)) h3 h4
    · rw [e6]
      refine X_bf rfl rfl rfl (nI_nm1 (by omega)) ?_
      -- the goal is added
      have hnq : c ∉ q := by
        intro hm
        obtain ⟨x', hx', -, ec, -⟩ := (h2 c).mp hm
        rcases hE x' (by omega) with q6 | ⟨c', hc', q6, q5, -⟩
        · rw [q6] at ec; exact nI_nm1 (a := c) (by omega) ec.symm
        · rw [q6] at ec
          have : c' = c := (nI_eq (by omega) (by omega)).mp ec
          subst this
          rw [q5] at e5
          have : x' = x := (nI_eq (by omega) (by omega)).mp e5
          omega
      have hlenq : q.length < F.1 * F.2.1 := by
        have := pig (F.1 * F.2.1) (q ++ [c]) (by rw [List.nodup_append]; exact ⟨h1, by simp, fun a ha b hb => by simp at hb; rw [hb]; exact fun e => hnq (e ▸ ha)⟩) (fun z hz => by
          rcases List.mem_append.mp hz with hz | hz
          · obtain ⟨x', -, hcn, -⟩ := (h2 z).mp hz
            exact hcn
          · simp at hz; rw [hz]; exact hc)
        simp at this
        omega
      have addit : (g = -1 ∨ g = nI x) → X y_Numbers_find 51 [some (.ref 10), some (.int g), some (.ref (12 + e)), some (.int (nI q.length)), some (.int (nI x)), some (.int (nI c))] [] (hp F (hB C e row qf) J G) Q := by
        intro hg
        iterate 3 (refine X_s rfl rfl ?_)
        refine X_ti rfl (hB_atr he) (by omega) rfl hc (by omega) ?_
        refine X_h (hp_stA (kd_row e he).1 (ln_0 (kd_row e he).2)) ?_
        rw [hB_sr he]
        iterate 4 (refine X_s rfl rfl ?_)
        refine X_ti rfl hB_atq (by omega) rfl hlenq (by omega) ?_
        refine X_h (hp_stA (k := 22) rfl rfl) ?_
        rw [hB_sq]
        refine X_s rfl rfl ?_
        have h := again (q ++ [c]) (upd row c 0) (upd qf q.length (nI c)) (some (.int (nI c))) (by rw [List.nodup_append]; exact ⟨h1, by simp, fun a ha b hb => by simp at hb; rw [hb]; exact fun e => hnq (e ▸ ha)⟩) (fun z => by
            constructor
            · intro hz
              rcases List.mem_append.mp hz with hz | hz
              · obtain ⟨x', hx', r⟩ := (h2 z).mp hz
                exact ⟨x', by omega, r⟩
              · simp at hz; subst hz
                exact ⟨x, by omega, hc, e6, hg⟩
            · rintro ⟨x', hx', r1, r2, r3⟩
              by_cases e9 : x' = x
              · subst e9
                rw [e6] at r2
                have : c = z := (nI_eq (by omega) (by omega)).mp r2
                subst this
                simp
              · exact List.mem_append_left _ ((h2 z).mpr ⟨x', by omega, r1, r2, r3⟩)) (fun z hz => by
            show (if z = c then 0 else row z) = _
            by_cases e9 : z = c
            · subst e9; rw [if_pos rfl, if_pos (by simp)]
            · rw [if_neg e9, h3 z hz]
              by_cases hm : z ∈ q
              · rw [if_pos hm, if_pos (List.mem_append_left _ hm)]
              · rw [if_neg hm, if_neg (by simp [hm, e9])]) (fun i hi => by
            simp only [List.length_append, List.length_singleton] at hi
            rcases Nat.lt_or_ge i q.length with hl2 | hl2
            · rw [getD_app hl2]
              show (if i = q.length then _ else qf i) = _
              rw [if_neg (by omega)]; exact h4 i hl2
            · have : i = q.length := by omega
              subst this
              rw [getD_last]
              exact if_pos rfl)
        rw [List.length_append, List.length_singleton, ← nI_1'] at h
        exact h
      iterate 2 (refine X_s rfl rfl ?_)
      refine X_b rfl rfl rfl (fun q1 => addit (Or.inl q1)) (fun q1 => ?_)
      iterate 2 (refine X_s rfl rfl ?_)
      refine X_b rfl rfl rfl (fun q2 => ?_) (fun q2 => addit (Or.inr (Decidable.not_not.mp q2)))
      exact again q row qf _ h1 (skip (fun ⟨c', _, _, hg⟩ => hg.elim q1 q2)) h3 h4
/-- find: the row e holds all numbers behind it -/
theorem Y_find {g : Int32} (hF : okF F) (hS : okS F C) (he : e < 9) : Y y_Numbers_find [.ref 10, .int g, .ref (12 + e)] (hp F C J G) (fun o h' => ∃ row qf, o = .inl none ∧ h' = hp F (hB C e row qf) J G ∧ rowOk F C g row) := by
  have hn := hF.n
  obtain ⟨n8, hX8, hX, hE, hI⟩ := hS.2.2
  unfold Y
  iterate 2 (refine X_s rfl rfl ?_)
  refine X_cd rfl rfl rfl rfl (Y_fillC (kd_row e he).1 (ln_0 (kd_row e he).2) (show F.1 * F.2.1 < 2 ^ 31 by omega)) ?_
  rw [hB_start he]
  iterate 4 (refine X_s rfl rfl ?_)
  refine Y_find_loop1 (n8 := n8) hF hS he hX8 hX hE (fun q row qf o5 B hq => ?_) n8 0 (by omega) [] _ _ _ (by simp) (fun c => by simp) (fun c hc => by simp [flt, hc]) (fun i hi => by simp at hi)
  refine Y_find_loop2 hF hS he (fun c hc hg => ?_) (fun row qf hrow => ⟨row, qf, rfl, rfl, hrow⟩) (F.1 * F.2.1) 0 (by omega) q row qf _ o5 B hq
  obtain ⟨x, hx, hx8, ec, -⟩ := hg
  rw [hX] at hx
  have hxX : x < n8 := (nI_ltI (by omega) (by omega)).mp hx
  rcases hE x hxX with q6 | ⟨c', hc', q6, q5, q2⟩
  · rw [q6] at ec; exact absurd ec.symm (nI_nm1 (by omega))
  · rw [q6] at ec
    have : c' = c := (nI_eq (by omega) (by omega)).mp ec
    subst this
    unfold opC
    rw [q2]; decide
end
end
section
/-! rowTo, findAll, forget -/
section
variable {F : Fx} {C : Ct} {J : Nat → Int64} {G : Ex} {e : Nat}
theorem X_lz {y pc tgt a n k : Nat} {f : Nat → Int32} {j : Int32} {L : mL} {S : List Value} {h : mH} {Q : mE → mH → Prop} (h1 : m_at y pc = some (.baload, 1, tgt)) (hh : h.1 a = mZ n f) (hj : j = nI k) (hk : k < n) (hn : n < 2 ^ 31) (kk : X y (pc + 1) L (.int (f k) :: S) h Q) : X y pc L (.int j :: .ref a :: S) h Q :=
  X_ln (f := fun k => .int (f k)) h1 rfl rfl (by simp only [m_al, hh]) hj hk hn kk
/-- the rows that are known hold their numbers -/
def okN (F : Fx) (C : Ct) : Prop := ∀ r, r < 9 → C 21 r = 0 ∨ (C 21 r = 1 ∧ rowOk F C (nI r - 1) (C (12 + r)))
/-- only the rows, the queue and the flags differ, and the rows that are known stay so -/
def sameN (C C' : Ct) : Prop := ∀ k, k ≠ 21 → k ≠ 22 → (k < 12 ∨ 20 < k) → C' k = C k
theorem opB_same {C C' : Ct} (h : sameN C C') (c w : Nat) : opB C' c w = opB C c w := by
  unfold opB; rw [h 9 (by omega) (by omega) (by omega), h 2 (by omega) (by omega) (by omega)]
theorem rowOk_same {C C' : Ct} (h : sameN C C') {g : Int32} {row : Nat → Int32} (hr : rowOk F C g row) : rowOk F C' g row := by
  have e1 : nbC C' = nbC C := by funext c w; unfold nbC; rw [opB_same h]
  have e2 : glC C' g = glC C g := by funext c; unfold glC; rw [h 1 (by omega) (by omega) (by omega), h 6 (by omega) (by omega) (by omega)]
  have e3 : opC C' = opC C := by funext c; unfold opC; rw [h 2 (by omega) (by omega) (by omega)]
  unfold rowOk
  rw [e1, e2, e3]
  exact hr
theorem okS_same {C C' : Ct} (h : sameN C C') (hs : okS F C) : okS F C' := by
  unfold okS okB
  rw [h 9 (by omega) (by omega) (by omega), h 1 (by omega) (by omega) (by omega), h 6 (by omega) (by omega) (by omega), h 5 (by omega) (by omega) (by omega), h 2 (by omega) (by omega) (by omega)]
  exact hs
theorem sameN_rf (C : Ct) : sameN C C := fun _ _ _ _ => rfl
theorem sameN_tr {A B C : Ct} (h1 : sameN A B) (h2 : sameN B C) : sameN A C := fun k a b c => (h2 k a b c).trans (h1 k a b c)
/-- rowTo: the row's cell; the row holds its numbers behind it -/
theorem Y_rowTo {x : Int32} (hF : okF F) (hS : okS F C) (hN : okN F C) (he : e < 9) (hx : x + 1 = nI e) (hx2 : x = nI e - 1) :
    Y y_Numbers_rowTo [.ref 10, .int x] (hp F C J G) (fun o h' => ∃ C', o = .inl (some (.ref (12 + e))) ∧ h' = hp F C' J G ∧ sameN C C' ∧ okN F C' ∧ rowOk F C' x (C' (12 + e))) := by
  have hn := hF.n
  unfold Y
  iterate 4 (refine X_s rfl rfl ?_)
  rw [show x + Int32.ofInt 1 = nI e from hx]
  iterate 3 (refine X_s rfl rfl ?_)
  refine X_lz (n := 9) (f := C 21) rfl rfl rfl he (by omega) ?_
  rcases hN e he with e0 | ⟨e1, hr⟩
  · rw [e0]
    refine X_bf rfl rfl rfl (fun h => h rfl) ?_
    iterate 5 (refine X_s rfl rfl ?_)
    refine X_ln rfl rfl rfl rfl rfl he (show 9 < 2 ^ 31 by omega) ?_
    refine X_c rfl rfl rfl rfl (Y_find (g := x) hF hS he) ?_ ?_
    · rintro v h' ⟨row, qf, ev, rfl, hrow⟩
      cases ev
      iterate 4 (refine X_s rfl rfl ?_)
      refine X_tn (n := 9) (c := fun k => mZ 9 (upd (hB C e row qf 21) k 1)) rfl rfl rfl rfl rfl rfl he (show 9 < 2 ^ 31 by omega) ?_
      refine X_h (hp_stz (k := 21) rfl rfl) ?_
      iterate 3 (refine X_s rfl rfl ?_)
      refine X_ln rfl rfl rfl rfl rfl he (show 9 < 2 ^ 31 by omega) ?_
      have hsm : sameN C (st (hB C e row qf) 21 e 1) := fun k k1 k2 k3 => by rw [st_f k1, hB_o (by omega) k2]
      have hrow' : st (hB C e row qf) 21 e 1 (12 + e) = row := by rw [st_f (by omega), hB_row he]
      refine X_r rfl rfl rfl rfl ⟨_, rfl, rfl, hsm, fun r hr9 => ?_, ?_⟩
      · by_cases er : r = e
        · subst er
          right
          refine ⟨by rw [st_s], ?_⟩
          rw [hrow', ← hx2]
          exact rowOk_same hsm hrow
        · have e21 : st (hB C e row qf) 21 e 1 21 r = C 21 r := by rw [st_i er, hB_o (by omega) (by omega)]
          have e12 : st (hB C e row qf) 21 e 1 (12 + r) = C (12 + r) := by rw [st_f (by omega), hB_o (by omega) (by omega)]
          rw [e21, e12]
          rcases hN r hr9 with q | ⟨q1, q2⟩
          · exact Or.inl q
          · exact Or.inr ⟨q1, rowOk_same hsm q2⟩
      · rw [hrow']; exact rowOk_same hsm hrow
    · rintro v h' ⟨row, qf, ev, -⟩
      cases ev
  · rw [e1]
    refine X_bt rfl rfl rfl (show ¬ (1 : Int32) = 0 by decide) ?_
    iterate 3 (refine X_s rfl rfl ?_)
    refine X_ln rfl rfl rfl rfl rfl he (show 9 < 2 ^ 31 by omega) ?_
    exact X_r rfl rfl rfl rfl ⟨C, rfl, rfl, sameN_rf C, hN, by rw [hx2]; exact hr⟩
end
end
section
/-! the reference: the cell beside, is it a goal -/
section XR4
variable {y pc tgt : Nat} {x z : Int32} {L : mL} {S : List Value} {h : mH} {Q : mE → mH → Prop}
theorem X_rem (h1 : m_at y pc = some (.irem, 1, tgt)) (hz : ¬ z = 0) (kk : X y (pc + 1) L (.int (x - x / z * z) :: S) h Q) : X y pc L (.int z :: .int x :: S) h Q :=
  X_m h1 rfl rfl rfl rfl (by simp only [m_more]; rw [m_if_t hz]) kk
theorem X_div (h1 : m_at y pc = some (.idiv, 1, tgt)) (hz : ¬ z = 0) (kk : X y (pc + 1) L (.int (x / z) :: S) h Q) : X y pc L (.int z :: .int x :: S) h Q :=
  X_m h1 rfl rfl rfl rfl (by simp only [m_more]; rw [m_if_t hz]) kk
end XR4
def dxI (w : Nat) : Int32 := if w = 0 then 1 else if w = 1 then -1 else 0
def dyI (w : Nat) : Int32 := if w = 2 then 1 else if w = 3 then -1 else 0
/-- the cell beside in the reference, -1 beyond the storey's edge -/
def bsI (F : Fx) (c w : Nat) : Int32 := if (0 ≤ nI (c % 24) + dxI w ∧ nI (c % 24) + dxI w < nI F.1) ∧ (0 ≤ nI (c / 24) + dyI w ∧ nI (c / 24) + dyI w < nI F.2.1) then 24 * (nI (c / 24) + dyI w) + (nI (c % 24) + dxI w) else -1
section
variable {F : Fx} {C : Ct} {J : Nat → Int64} {G : Ex}
theorem Y_mcellI {x z : Int32} {h : mH} : Yd y_Model_cell [.int x, .int z] h (.inl (some (.int (24 * z + x)))) h := by
  refine Yd_of (fun Q k => ?_)
  unfold Y
  repeat (refine X_s rfl rfl ?_)
  exact X_r rfl rfl rfl rfl k
theorem Y_beside_tail {x z : Int32} {v1 v2 : Option Value} {Q : mE → mH → Prop} (k : Q (.inl (some (.int (if (0 ≤ x ∧ x < nI F.1) ∧ (0 ≤ z ∧ z < nI F.2.1) then 24 * z + x else -1)))) (hp F C J G)) :
    X y_Model_beside 50 [some (.ref 169), v1, v2, some (.int x), some (.int z)] [] (hp F C J G) Q := by
  iterate 3 (refine X_s rfl rfl ?_)
  refine X_cd rfl rfl rfl rfl Y_isCell ?_
  by_cases hc : (0 ≤ x ∧ x < nI F.1) ∧ (0 ≤ z ∧ z < nI F.2.1)
  · rw [show decide ((0 ≤ x ∧ x < nI F.1) ∧ (0 ≤ z ∧ z < nI F.2.1)) = true from decide_eq_true hc]
    rw [if_pos hc] at k
    refine X_bf rfl rfl rfl bI_t0 ?_
    iterate 2 (refine X_s rfl rfl ?_)
    refine X_cd rfl rfl rfl rfl Y_mcellI ?_
    refine X_s rfl rfl ?_
    exact X_r rfl rfl rfl rfl k
  · rw [show decide ((0 ≤ x ∧ x < nI F.1) ∧ (0 ≤ z ∧ z < nI F.2.1)) = false from decide_eq_false hc]
    rw [if_neg hc] at k
    refine X_bt rfl rfl rfl bI_f0 ?_
    refine X_s rfl rfl ?_
    exact X_r rfl rfl rfl rfl k
theorem Y_beside {c w : Nat} (hc : c < 2 ^ 31) (hw : w < 4) : Yd y_Model_beside [.ref 169, .int (nI c), .int (nI w)] (hp F C J G) (.inl (some (.int (bsI F c w)))) (hp F C J G) := by
  refine Yd_of (fun Q k => ?_)
  unfold Y
  have er : nI c - nI c / 24 * 24 = nI (c % 24) := pk_rem (d := 24) hc (by omega) (by omega)
  have ed : nI c / 24 = nI (c / 24) := pk_div (d := 24) hc (by omega) (by omega)
  iterate 2 (refine X_s rfl rfl ?_)
  refine X_rem rfl (show ¬ (24 : Int32) = 0 by decide) ?_
  rw [show nI c - nI c / (Int8.ofInt 24).toInt32 * (Int8.ofInt 24).toInt32 = nI (c % 24) from er]
  refine X_s rfl rfl ?_
  have hw4 : w = 0 ∨ w = 1 ∨ w = 2 ∨ w = 3 := by omega
  rcases hw4 with rfl | rfl | rfl | rfl
  · refine X_bf rfl rfl rfl (show ¬ ¬ nI 0 = 0 from fun h => h rfl) ?_
    iterate 6 (refine X_s rfl rfl ?_)
    refine X_div rfl (show ¬ (24 : Int32) = 0 by decide) ?_
    rw [show nI c / (Int8.ofInt 24).toInt32 = nI (c / 24) from ed]
    iterate 2 (refine X_s rfl rfl ?_)
    refine X_bt rfl rfl rfl (show ¬ nI 0 = 2 by decide) ?_
    iterate 2 (refine X_s rfl rfl ?_)
    refine X_bt rfl rfl rfl (show ¬ nI 0 = 3 by decide) ?_
    iterate 3 (refine X_s rfl rfl ?_)
    exact Y_beside_tail k
  · refine X_bt rfl rfl rfl (show ¬ nI 1 = 0 by decide) ?_
    iterate 2 (refine X_s rfl rfl ?_)
    refine X_bf rfl rfl rfl (show ¬ ¬ nI 1 = 1 from fun h => h rfl) ?_
    iterate 6 (refine X_s rfl rfl ?_)
    refine X_div rfl (show ¬ (24 : Int32) = 0 by decide) ?_
    rw [show nI c / (Int8.ofInt 24).toInt32 = nI (c / 24) from ed]
    iterate 2 (refine X_s rfl rfl ?_)
    refine X_bt rfl rfl rfl (show ¬ nI 1 = 2 by decide) ?_
    iterate 2 (refine X_s rfl rfl ?_)
    refine X_bt rfl rfl rfl (show ¬ nI 1 = 3 by decide) ?_
    iterate 3 (refine X_s rfl rfl ?_)
    exact Y_beside_tail k
  · refine X_bt rfl rfl rfl (show ¬ nI 2 = 0 by decide) ?_
    iterate 2 (refine X_s rfl rfl ?_)
    refine X_bt rfl rfl rfl (show ¬ nI 2 = 1 by decide) ?_
    iterate 5 (refine X_s rfl rfl ?_)
    refine X_div rfl (show ¬ (24 : Int32) = 0 by decide) ?_
    rw [show nI c / (Int8.ofInt 24).toInt32 = nI (c / 24) from ed]
    iterate 2 (refine X_s rfl rfl ?_)
    refine X_bf rfl rfl rfl (show ¬ ¬ nI 2 = 2 from fun h => h rfl) ?_
    iterate 4 (refine X_s rfl rfl ?_)
    exact Y_beside_tail k
  · refine X_bt rfl rfl rfl (show ¬ nI 3 = 0 by decide) ?_
    iterate 2 (refine X_s rfl rfl ?_)
    refine X_bt rfl rfl rfl (show ¬ nI 3 = 1 by decide) ?_
    iterate 5 (refine X_s rfl rfl ?_)
    refine X_div rfl (show ¬ (24 : Int32) = 0 by decide) ?_
    rw [show nI c / (Int8.ofInt 24).toInt32 = nI (c / 24) from ed]
    iterate 2 (refine X_s rfl rfl ?_)
    refine X_bt rfl rfl rfl (show ¬ nI 3 = 2 by decide) ?_
    iterate 2 (refine X_s rfl rfl ?_)
    refine X_bf rfl rfl rfl (show ¬ ¬ nI 3 = 3 from fun h => h rfl) ?_
    iterate 4 (refine X_s rfl rfl ?_)
    exact Y_beside_tail k
/-- is it a goal of the row w (8: all exits) -/
def glM (C : Ct) (w c : Nat) : Prop := if w = 8 then 0 ≤ C 171 c else C 171 c = nI w
theorem Y_isGoal {c w : Nat} (hc : c < 576) (hw : w ≤ 8) {Q : mE → mH → Prop} (kt : glM C w c → Q (.inl (some (.int 1))) (hp F C J G)) (kf : ¬ glM C w c → Q (.inl (some (.int 0))) (hp F C J G)) : Y y_Model_isGoal [.ref 169, .int (nI w), .int (nI c)] (hp F C J G) Q := by
  unfold Y
  iterate 2 (refine X_s rfl rfl ?_)
  by_cases h8 : w = 8
  · subst h8
    refine X_bf rfl rfl rfl (show ¬ ¬ nI 8 = 8 from fun h => h rfl) ?_
    iterate 3 (refine X_s rfl rfl ?_)
    refine X_ln rfl rfl rfl rfl rfl hc (show 576 < 2 ^ 31 by omega) ?_
    refine X_b rfl rfl rfl (fun q => ?_) (fun q => ?_)
    · iterate 2 (refine X_s rfl rfl ?_)
      exact X_r rfl rfl rfl rfl (kf (fun h => by unfold glM at h; rw [if_pos rfl] at h; exact Int32.not_lt.mpr h q))
    · iterate 2 (refine X_s rfl rfl ?_)
      exact X_r rfl rfl rfl rfl (kt (by unfold glM; rw [if_pos rfl]; exact Int32.not_lt.mp q))
  · refine X_bt rfl rfl rfl (show ¬ nI w = 8 from fun q => h8 ((nI_eq (b := 8) (by omega) (by omega)).mp q)) ?_
    iterate 3 (refine X_s rfl rfl ?_)
    refine X_ln rfl rfl rfl rfl rfl hc (show 576 < 2 ^ 31 by omega) ?_
    refine X_s rfl rfl ?_
    refine X_b rfl rfl rfl (fun q => ?_) (fun q => ?_)
    · refine X_s rfl rfl ?_
      exact X_r rfl rfl rfl rfl (kf (fun h => by unfold glM at h; rw [if_neg h8] at h; exact q h))
    · iterate 2 (refine X_s rfl rfl ?_)
      exact X_r rfl rfl rfl rfl (kt (by unfold glM; rw [if_neg h8]; exact Decidable.not_not.mp q))
end
end
section
/-! the reference's cells, as numbers -/
def inS (F : Fx) (c : Nat) : Prop := c % 24 < F.1 ∧ c / 24 < F.2.1
def bsN (F : Fx) (c w : Nat) : Option Nat :=
  if w = 0 then (if c % 24 + 1 < F.1 ∧ c / 24 < F.2.1 then some (c + 1) else none)
  else if w = 1 then (if 1 ≤ c % 24 ∧ c % 24 - 1 < F.1 ∧ c / 24 < F.2.1 then some (c - 1) else none)
  else if w = 2 then (if c % 24 < F.1 ∧ c / 24 + 1 < F.2.1 then some (c + 24) else none)
  else (if c % 24 < F.1 ∧ 1 ≤ c / 24 ∧ c / 24 - 1 < F.2.1 then some (c - 24) else none)
theorem bsI_eq {F : Fx} (hF : okF F) {c w : Nat} (hc : c < 576) (hw : w < 4) : bsI F c w = (match bsN F c w with | some d => nI d | none => -1) := by
  obtain ⟨⟨f1, f2⟩, ⟨f3, f4⟩, -⟩ := hF
  have hc24 : c = 24 * (c / 24) + c % 24 := by omega
  have em1 : ¬ (0 : Int32) ≤ -1 := by decide
  have e24 : (24 : Int32) = nI 24 := rfl
  have hw4 : w = 0 ∨ w = 1 ∨ w = 2 ∨ w = 3 := by omega
  rcases hw4 with rfl | rfl | rfl | rfl
  · have ex : nI (c % 24) + dxI 0 = nI (c % 24 + 1) := nI_1 _
    have ey : nI (c / 24) + dyI 0 = nI (c / 24) := Int32.add_zero _
    have eb : bsN F c 0 = if c % 24 + 1 < F.1 ∧ c / 24 < F.2.1 then some (c + 1) else none := rfl
    unfold bsI
    rw [ex, ey, eb]
    by_cases h : c % 24 + 1 < F.1 ∧ c / 24 < F.2.1
    · rw [if_pos h, if_pos ⟨⟨nI_pos' (by omega), nI_lt h.1 (by omega)⟩, nI_pos' (by omega), nI_lt h.2 (by omega)⟩, e24, pk_mul, nI_add]
      dsimp only; congr 1; omega
    · rw [if_neg h, if_neg (fun q => h ⟨(nI_ltI (by omega) (by omega)).mp q.1.2, (nI_ltI (by omega) (by omega)).mp q.2.2⟩)]
  · have ey : nI (c / 24) + dyI 1 = nI (c / 24) := Int32.add_zero _
    have eb : bsN F c 1 = if 1 ≤ c % 24 ∧ c % 24 - 1 < F.1 ∧ c / 24 < F.2.1 then some (c - 1) else none := rfl
    unfold bsI
    rw [ey, eb]
    by_cases h0 : c % 24 = 0
    · have ex : nI (c % 24) + dxI 1 = -1 := by rw [h0]; rfl
      rw [ex, if_neg (c := 1 ≤ c % 24 ∧ _) (fun q => by omega), if_neg (fun q => em1 q.1.1)]
    · have ex : nI (c % 24) + dxI 1 = nI (c % 24 - 1) := by
        obtain ⟨k, hk⟩ : ∃ k, c % 24 = k + 1 := ⟨c % 24 - 1, by omega⟩
        rw [hk]; exact pk_m1 k
      rw [ex]
      by_cases h : 1 ≤ c % 24 ∧ c % 24 - 1 < F.1 ∧ c / 24 < F.2.1
      · rw [if_pos h, if_pos ⟨⟨nI_pos' (by omega), nI_lt h.2.1 (by omega)⟩, nI_pos' (by omega), nI_lt h.2.2 (by omega)⟩, e24, pk_mul, nI_add]
        dsimp only; congr 1; omega
      · rw [if_neg h, if_neg (fun q => h ⟨by omega, (nI_ltI (by omega) (by omega)).mp q.1.2, (nI_ltI (by omega) (by omega)).mp q.2.2⟩)]
  · have ex : nI (c % 24) + dxI 2 = nI (c % 24) := Int32.add_zero _
    have ey : nI (c / 24) + dyI 2 = nI (c / 24 + 1) := nI_1 _
    have eb : bsN F c 2 = if c % 24 < F.1 ∧ c / 24 + 1 < F.2.1 then some (c + 24) else none := rfl
    unfold bsI
    rw [ex, ey, eb]
    by_cases h : c % 24 < F.1 ∧ c / 24 + 1 < F.2.1
    · rw [if_pos h, if_pos ⟨⟨nI_pos' (by omega), nI_lt h.1 (by omega)⟩, nI_pos' (by omega), nI_lt h.2 (by omega)⟩, e24, pk_mul, nI_add]
      dsimp only; congr 1; omega
    · rw [if_neg h, if_neg (fun q => h ⟨(nI_ltI (by omega) (by omega)).mp q.1.2, (nI_ltI (by omega) (by omega)).mp q.2.2⟩)]
  · have ex : nI (c % 24) + dxI 3 = nI (c % 24) := Int32.add_zero _
    have eb : bsN F c 3 = if c % 24 < F.1 ∧ 1 ≤ c / 24 ∧ c / 24 - 1 < F.2.1 then some (c - 24) else none := rfl
    unfold bsI
    rw [ex, eb]
    by_cases h0 : c / 24 = 0
    · have ey : nI (c / 24) + dyI 3 = -1 := by rw [h0]; rfl
      rw [ey, if_neg (c := c % 24 < F.1 ∧ 1 ≤ c / 24 ∧ _) (fun q => by omega), if_neg (fun q => em1 q.2.1)]
    · have ey : nI (c / 24) + dyI 3 = nI (c / 24 - 1) := by
        obtain ⟨k, hk⟩ : ∃ k, c / 24 = k + 1 := ⟨c / 24 - 1, by omega⟩
        rw [hk]; exact pk_m1 k
      rw [ey]
      by_cases h : c % 24 < F.1 ∧ 1 ≤ c / 24 ∧ c / 24 - 1 < F.2.1
      · rw [if_pos h, if_pos ⟨⟨nI_pos' (by omega), nI_lt h.1 (by omega)⟩, nI_pos' (by omega), nI_lt h.2.2 (by omega)⟩, e24, pk_mul, nI_add]
        dsimp only; congr 1; omega
      · rw [if_neg h, if_neg (fun q => h ⟨(nI_ltI (by omega) (by omega)).mp q.1.2, by omega, (nI_ltI (by omega) (by omega)).mp q.2.2⟩)]
theorem bsN_in {F : Fx} (hF : okF F) {c w d : Nat} (h : bsN F c w = some d) : inS F d ∧ d < 576 := by
  obtain ⟨⟨f1, f2⟩, ⟨f3, f4⟩, -⟩ := hF
  have key : inS F d → inS F d ∧ d < 576 := fun h => ⟨h, by have := h.1; have := h.2; omega⟩
  apply key
  unfold bsN at h
  unfold inS
  split at h
  · split at h
    · cases h; omega
    · cases h
  · split at h
    · split at h
      · cases h; omega
      · cases h
    · split at h
      · split at h
        · cases h; omega
        · cases h
      · split at h
        · cases h; omega
        · cases h
theorem bsN_sym {F : Fx} (hF : okF F) {c w d : Nat} (hc : inS F c) (hw : w < 4) (h : bsN F c w = some d) : ∃ w', w' < 4 ∧ bsN F d w' = some c := by
  obtain ⟨⟨f1, f2⟩, ⟨f3, f4⟩, -⟩ := hF
  obtain ⟨c1, c2⟩ := hc
  have hw4 : w = 0 ∨ w = 1 ∨ w = 2 ∨ w = 3 := by omega
  rcases hw4 with rfl | rfl | rfl | rfl
  · unfold bsN at h
    rw [if_pos rfl] at h
    split at h
    · cases h
      refine ⟨1, by omega, ?_⟩
      unfold bsN
      rw [if_neg (by omega), if_pos rfl, if_pos (by omega)]
      congr 1
    · cases h
  · unfold bsN at h
    rw [if_neg (by omega), if_pos rfl] at h
    split at h
    · cases h
      refine ⟨0, by omega, ?_⟩
      unfold bsN
      rw [if_pos rfl, if_pos (by omega)]
      congr 1; omega
    · cases h
  · unfold bsN at h
    rw [if_neg (by omega), if_neg (by omega), if_pos rfl] at h
    split at h
    · cases h
      refine ⟨3, by omega, ?_⟩
      unfold bsN
      rw [if_neg (by omega), if_neg (by omega), if_neg (by omega), if_pos (by omega)]
      congr 1
    · cases h
  · unfold bsN at h
    rw [if_neg (by omega), if_neg (by omega), if_neg (by omega)] at h
    split at h
    · cases h
      refine ⟨2, by omega, ?_⟩
      unfold bsN
      rw [if_neg (by omega), if_neg (by omega), if_pos rfl, if_pos (by omega)]
      congr 1; omega
    · cases h
/-- the open cell beside, in the reference -/
def nbM (F : Fx) (C : Ct) (c w : Nat) : Option Nat := match bsN F c w with
  | some d => if C 170 d = 0 then some d else none
  | none => none
def opM (F : Fx) (C : Ct) (c : Nat) : Prop := inS F c ∧ C 170 c = 0
theorem nbM_in {F : Fx} {C : Ct} (hF : okF F) {c w d : Nat} (h : nbM F C c w = some d) : d < 576 ∧ opM F C d := by
  unfold nbM at h
  split at h
  · rename_i d' hd
    split at h
    · rename_i h0
      cases h
      obtain ⟨h1, h2⟩ := bsN_in hF hd
      exact ⟨h2, h1, h0⟩
    · cases h
  · cases h
theorem nbM_sym {F : Fx} {C : Ct} (hF : okF F) {c w d : Nat} (ho : opM F C c) (hw : w < 4) (h : nbM F C c w = some d) : ∃ w', w' < 4 ∧ nbM F C d w' = some c := by
  unfold nbM at h
  split at h
  · rename_i d' hd
    split at h
    · cases h
      obtain ⟨w', hw', e⟩ := bsN_sym hF ho.1 hw hd
      refine ⟨w', hw', ?_⟩
      unfold nbM
      rw [e]
      exact if_pos ho.2
    · cases h
  · cases h
end
section
/-! the reference's walking numbers -/
def spl (f : Nat → Int32) (wh : Nat) (row : Nat → Int32) : Nat → Int32 := fun j => if 576 * wh ≤ j ∧ j < 576 * wh + 576 then row (j - 576 * wh) else f j
theorem spl_at {f row : Nat → Int32} {wh o : Nat} (h : o < 576) : spl f wh row (576 * wh + o) = row o := by
  unfold spl; rw [if_pos (by omega)]; congr 1; omega
theorem spl_upd {f row : Nat → Int32} {wh o : Nat} {v : Int32} (h : o < 576) : upd (spl f wh row) (576 * wh + o) v = spl f wh (upd row o v) := by
  funext j
  unfold upd spl
  by_cases e : j = 576 * wh + o
  · subst e; rw [if_pos rfl, if_pos (by omega)]; exact (if_pos (by omega)).symm
  · rw [if_neg e]
    by_cases q : 576 * wh ≤ j ∧ j < 576 * wh + 576
    · rw [if_pos q, if_pos q]; exact (if_neg (by omega)).symm
    · rw [if_neg q, if_neg q]
def hM (C : Ct) (wh : Nat) (row ring : Nat → Int32) : Ct := stA (stA C 179 (spl (C 179) wh row)) 180 ring
def rowOkM (F : Fx) (C : Ct) (wh : Nat) (row : Nat → Int32) : Prop := ∀ c, c < 576 → (row c = -1 ∧ ∀ k, ¬ Rch 576 (nbM F C) (glM C wh) (opM F C) k c) ∨ ∃ d, d < 576 ∧ row c = nI d ∧ Num 576 (nbM F C) (glM C wh) (opM F C) c d
section
variable {F : Fx} {C : Ct} {J : Nat → Int64} {G : Ex} {wh : Nat} {row ring : Nat → Int32}
theorem hM_n : hM C wh row ring 179 = spl (C 179) wh row := by unfold hM; rw [stA_f (by omega), stA_k]
theorem hM_r : hM C wh row ring 180 = ring := stA_k
theorem hM_o {k : Nat} (h1 : k ≠ 179) (h2 : k ≠ 180) : hM C wh row ring k = C k := by unfold hM; rw [stA_f h2, stA_f h1]
theorem hM_atn : (hp F (hM C wh row ring) J G).1 179 = mI 5184 (spl (C 179) wh row) := by rw [hp_at (k := 179) (n := 5184) rfl rfl, hM_n]
theorem hM_atr : (hp F (hM C wh row ring) J G).1 180 = mI 576 ring := by rw [hp_at (k := 180) (n := 576) rfl rfl, hM_r]
theorem hM_sn {o : Nat} {v : Int32} (ho : o < 576) : stA (hM C wh row ring) 179 (upd (spl (C 179) wh row) (576 * wh + o) v) = hM C wh (upd row o v) ring := by
  rw [spl_upd ho]
  funext k
  unfold hM stA
  by_cases h1 : k = 179
  · subst h1; rw [if_pos rfl, if_neg (by omega), if_pos rfl]
  · rw [if_neg h1]
    by_cases h2 : k = 180
    · rw [if_pos h2, if_pos h2]
    · rw [if_neg h2, if_neg h2, if_neg h1, if_neg h1]
theorem hM_sr (r' : Nat → Int32) : stA (hM C wh row ring) 180 r' = hM C wh row r' := by
  funext k
  unfold hM stA
  by_cases h2 : k = 180
  · rw [if_pos h2, if_pos h2]
  · rw [if_neg h2, if_neg h2, if_neg h2]
theorem hM_start : hM C wh (fun c => C 179 (576 * wh + c)) (C 180) = C := by
  funext k
  unfold hM stA
  by_cases h2 : k = 180
  · rw [if_pos h2, h2]
  · rw [if_neg h2]
    by_cases h1 : k = 179
    · rw [if_pos h1, h1]
      funext j
      unfold spl
      split
      · rename_i hq
        show C 179 (576 * wh + (j - 576 * wh)) = C 179 j
        rw [show 576 * wh + (j - 576 * wh) = j by omega]
      · rfl
    · rw [if_neg h1]
theorem e576 (wh c : Nat) : (Int16.ofInt 576).toInt32 * nI wh + nI c = nI (576 * wh + c) := by
  rw [show (Int16.ofInt 576).toInt32 = nI 576 from rfl, pk_mul, nI_add]
theorem glM_o {c : Nat} : glM (hM C wh row ring) wh c ↔ glM C wh c := by unfold glM; rw [hM_o (by omega) (by omega)]
/-- the inner loop: one cell's four sides -/
theorem Y_mfind_in {goal : Nat → Prop} {c nx : Nat} {Q : mE → mH → Prop} (hF : okF F) (hw8 : wh ≤ 8) (hwal : ∀ c, c < 576 → C 170 c = 0 ∨ C 170 c = 1) (hc576 : c < 576) (hco : opM F C c) (q0 : List Nat) (hx0 : nx < q0.length) (hc0 : q0.getD nx 0 = c)
    (kk : ∀ (q : List Nat) (row ring : Nat → Int32) (dn : Nat → Nat) (o5 : Option Value), Bf 576 (nbM F C) goal (opM F C) q nx 4 row dn → (∀ i, i < q.length → ring i = nI (q.getD i 0)) → q0.length ≤ q.length →
      X y_Model_find 172 [some (.ref 169), some (.int (nI wh)), some (.int (nI q.length)), some (.int (nI nx)), some (.int (nI 4)), o5] [] (hp F (hM C wh row ring) J G) Q) :
    ∀ (d w : Nat), w + d = 4 → ∀ (q : List Nat) (row ring : Nat → Int32) (dn : Nat → Nat) (o5 : Option Value), Bf 576 (nbM F C) goal (opM F C) q nx w row dn → (∀ i, i < q.length → ring i = nI (q.getD i 0)) → q0.length ≤ q.length → (∀ i, i < q0.length → q.getD i 0 = q0.getD i 0) →
      X y_Model_find 72 [some (.ref 169), some (.int (nI wh)), some (.int (nI q.length)), some (.int (nI nx)), some (.int (nI w)), o5] [] (hp F (hM C wh row ring) J G) Q := by
  intro d
  induction d with
  | zero =>
    intro w hw q row ring dn o5 B hq hl hpre
    have : w = 4 := by omega
    subst this
    iterate 2 (refine X_s rfl rfl ?_)
    refine X_bt rfl rfl rfl (Int32.le_refl _) ?_
    exact kk q row ring dn o5 B hq hl
  | succ d ih =>
    intro w hw q row ring dn o5 B hq hl hpre
    have hxq : nx < q.length := by omega
    have hcq : q.getD nx 0 = c := by rw [hpre nx hx0, hc0]
    have hlen := B.len
    have again : ∀ (q : List Nat) (row ring : Nat → Int32) (dn : Nat → Nat) (o5 : Option Value), Bf 576 (nbM F C) goal (opM F C) q nx (w + 1) row dn → (∀ i, i < q.length → ring i = nI (q.getD i 0)) → q0.length ≤ q.length → (∀ i, i < q0.length → q.getD i 0 = q0.getD i 0) →
        X y_Model_find 166 [some (.ref 169), some (.int (nI wh)), some (.int (nI q.length)), some (.int (nI nx)), some (.int (nI w)), o5] [] (hp F (hM C wh row ring) J G) Q := by
      intro q row ring dn o5 B hq hl hpre
      iterate 2 (refine X_s rfl rfl ?_)
      have h := ih (w + 1) (by omega) q row ring dn o5 B hq hl hpre
      rw [← nI_1'] at h
      exact h
    iterate 2 (refine X_s rfl rfl ?_)
    refine X_bf rfl rfl rfl (nI_ge (b := 4) (show w < 4 by omega) (by decide)) ?_
    iterate 4 (refine X_s rfl rfl ?_)
    refine X_li rfl hM_atr rfl (show nx < 576 by omega) (by omega) ?_
    rw [hq nx hxq, hcq]
    refine X_s rfl rfl ?_
    refine X_cd rfl rfl rfl rfl (Y_beside (show c < 2 ^ 31 by omega) (show w < 4 by omega)) ?_
    rw [bsI_eq hF hc576 (show w < 4 by omega)]
    cases hb : bsN F c w with
    | none =>
      dsimp only
      iterate 2 (refine X_s rfl rfl ?_)
      refine X_bt rfl rfl rfl (show (-1 : Int32) < 0 by decide) ?_
      exact again q row ring dn _ (B.skip hxq (fun o ho => by rw [hcq, nbM, hb] at ho; cases ho)) hq hl hpre
    | some o =>
      dsimp only
      obtain ⟨ho1, ho⟩ := bsN_in hF hb
      iterate 2 (refine X_s rfl rfl ?_)
      refine X_bf rfl rfl rfl (nI_pos (by omega)) ?_
      iterate 3 (refine X_s rfl rfl ?_)
      refine X_lz (n := 576) (f := C 170) rfl (by show hf F _ J G 170 = _; rw [hf_lt (by omega)]; show mZ 576 (hM C wh row ring 170) = _; rw [hM_o (by omega) (by omega)]) rfl ho (by omega) ?_
      by_cases hwl : C 170 o = 0
      · rw [hwl]
        refine X_bf rfl rfl rfl (fun h => h rfl) ?_
        iterate 7 (refine X_s rfl rfl ?_)
        refine X_li rfl hM_atn (e576 wh o) (show 576 * wh + o < 5184 by omega) (by omega) ?_
        rw [spl_at ho]
        have hnb : nbM F C c w = some o := by unfold nbM; rw [hb]; exact if_pos hwl
        by_cases hm : o ∈ q
        · have hro : row o = nI (dn o) := (B.2.2.2.1 o hm).1
          have hdo : dn o < 576 := by
            obtain ⟨i, hi, ei⟩ := mem_getD hm
            have := B.2.2.2.2.1 i hi
            rw [ei] at this
            omega
          refine X_bt rfl rfl rfl (show (0 : Int32) ≤ row o by rw [hro]; exact nI_pos' (by omega)) ?_
          exact again q row ring dn _ (B.skip hxq (fun o' ho' => by rw [hcq, hnb] at ho'; cases ho'; exact hm)) hq hl hpre
        · have hro : row o = -1 := B.2.2.1 o ho hm
          have hroom := B.room hm ho
          refine X_bf rfl rfl rfl (show ¬ (0 : Int32) ≤ row o by rw [hro]; decide) ?_
          iterate 15 (refine X_s rfl rfl ?_)
          refine X_li rfl hM_atr rfl (show nx < 576 by omega) (by omega) ?_
          rw [hq nx hxq, hcq]
          refine X_s rfl rfl ?_
          refine X_li rfl hM_atn (e576 wh c) (show 576 * wh + c < 5184 by omega) (by omega) ?_
          rw [spl_at hc576]
          iterate 2 (refine X_s rfl rfl ?_)
          have hrc : row c = nI (dn c) := (B.2.2.2.1 c (by rw [← hcq]; exact getD_mem hxq)).1
          rw [hrc, nI_1']
          refine X_ti rfl hM_atn (by omega) (e576 wh o) (show 576 * wh + o < 5184 by omega) (by omega) ?_
          refine X_h (hp_stA (k := 179) rfl rfl) ?_
          rw [hM_sn ho]
          iterate 4 (refine X_s rfl rfl ?_)
          refine X_ti rfl hM_atr (by omega) rfl hroom (by omega) ?_
          refine X_h (hp_stA (k := 180) rfl rfl) ?_
          rw [hM_sr]
          refine X_s rfl rfl ?_
          have B2 := B.add hxq (show w < 4 by omega) (by rw [hcq]; exact hnb) hm ho ⟨ho1, hwl⟩ (by rw [hcq]; exact nbM_sym hF hco (by omega) hnb)
          rw [hcq] at B2
          have h := again (q ++ [o]) (upd row o (nI (dn c + 1))) (upd ring q.length (nI o)) _ (some (.int (nI o))) B2 (fun i hi => by
            simp only [List.length_append, List.length_singleton] at hi
            rcases Nat.lt_or_ge i q.length with hl2 | hl2
            · rw [getD_app hl2]
              show (if i = q.length then _ else ring i) = _
              rw [if_neg (by omega)]; exact hq i hl2
            · have : i = q.length := by omega
              subst this
              rw [getD_last]
              exact if_pos rfl) (by simp; omega) (fun i hi => by rw [getD_app (by omega)]; exact hpre i hi)
          rw [List.length_append, List.length_singleton, ← nI_1'] at h
          exact h
      · refine X_bt rfl rfl rfl hwl ?_
        exact again q row ring dn _ (B.skip hxq (fun o' ho' => by rw [hcq, nbM, hb] at ho'; dsimp only at ho'; rw [if_neg hwl] at ho'; cases ho')) hq hl hpre
end
end
section
/-! the reference's find and learn -/
section
variable {F : Fx} {C : Ct} {J : Nat → Int64} {G : Ex} {wh : Nat}
theorem Y_mfind_out {Q : mE → mH → Prop} (hF : okF F) (hw8 : wh ≤ 8) (hwal : ∀ c, c < 576 → C 170 c = 0 ∨ C 170 c = 1) (hgo : ∀ c, c < 576 → glM C wh c → opM F C c)
    (kk : ∀ (row ring : Nat → Int32), rowOkM F C wh row → Q (.inl none) (hp F (hM C wh row ring) J G)) :
    ∀ (d nx : Nat), nx + d = 576 → ∀ (q : List Nat) (row ring : Nat → Int32) (dn : Nat → Nat) (o4 o5 : Option Value), Bf 576 (nbM F C) (glM C wh) (opM F C) q nx 0 row dn → (∀ i, i < q.length → ring i = nI (q.getD i 0)) →
      X y_Model_find 64 [some (.ref 169), some (.int (nI wh)), some (.int (nI q.length)), some (.int (nI nx)), o4, o5] [] (hp F (hM C wh row ring) J G) Q := by
  have done : ∀ (q : List Nat) (nx : Nat) (row ring : Nat → Int32) (dn : Nat → Nat) (o4 o5 : Option Value), Bf 576 (nbM F C) (glM C wh) (opM F C) q nx 0 row dn → nx = q.length → X y_Model_find 64 [some (.ref 169), some (.int (nI wh)), some (.int (nI q.length)), some (.int (nI nx)), o4, o5] [] (hp F (hM C wh row ring) J G) Q := by
    intro q nx row ring dn o4 o5 B hnx
    subst hnx
    iterate 2 (refine X_s rfl rfl ?_)
    refine X_bt rfl rfl rfl (Int32.le_refl _) ?_
    exact X_r rfl rfl rfl rfl (kk row ring (fun c hc => B.fin (fun c w d _ _ hd => nbM_in hF hd) (fun c w d ho _ hw hd => nbM_sym hF ho hw hd) c hc))
  intro d
  induction d with
  | zero =>
    intro nx hd q row ring dn o4 o5 B hq
    have hlen := B.len
    have hle : nx ≤ q.length := B.2.2.2.2.2.2.2.2.2
    exact done q nx row ring dn o4 o5 B (by omega)
  | succ d ih =>
    intro nx hd q row ring dn o4 o5 B hq
    have hlen := B.len
    have hle : nx ≤ q.length := B.2.2.2.2.2.2.2.2.2
    rcases Nat.lt_or_ge nx q.length with hx | hx
    · iterate 2 (refine X_s rfl rfl ?_)
      refine X_bf rfl rfl rfl (nI_ge hx (by omega)) ?_
      iterate 2 (refine X_s rfl rfl ?_)
      have hcn : q.getD nx 0 < 576 := B.2.1 _ (getD_mem hx)
      have hco : opM F C (q.getD nx 0) := by
        have hr := (B.2.2.2.1 _ (getD_mem hx)).2
        cases hdn : dn (q.getD nx 0) with
        | zero => rw [hdn] at hr; exact hgo _ hr.1 hr.2
        | succ k => rw [hdn] at hr; exact rch_op hgo k _ hr
      refine Y_mfind_in hF hw8 hwal hcn hco q hx rfl (fun q2 row2 ring2 dn2 o52 B2 hq2 hl2 => ?_) 4 0 (by omega) q row ring dn o5 B hq (Nat.le_refl _) (fun _ _ => rfl)
      iterate 2 (refine X_s rfl rfl ?_)
      have h := ih (nx + 1) (by omega) q2 row2 ring2 dn2 (some (.int (nI 4))) o52 (B2.next (by omega)) hq2
      rw [← nI_1'] at h
      exact h
    · exact done q nx row ring dn o4 o5 B (by omega)
theorem Y_mfind_goals {Q : mE → mH → Prop} (hw8 : wh ≤ 8)
    (kk : ∀ (q : List Nat) (row ring : Nat → Int32) (o4 o5 : Option Value), Bf 576 (nbM F C) (glM C wh) (opM F C) q 0 0 row (fun _ => 0) → (∀ i, i < q.length → ring i = nI (q.getD i 0)) → X y_Model_find 64 [some (.ref 169), some (.int (nI wh)), some (.int (nI q.length)), some (.int (nI 0)), o4, o5] [] (hp F (hM C wh row ring) J G) Q) :
    ∀ (d c : Nat), c + d = 576 → ∀ (q : List Nat) (row ring : Nat → Int32) (o4 o5 : Option Value), q.Nodup → (∀ z, z ∈ q ↔ z < c ∧ glM C wh z) → (∀ z, z < c → row z = if z ∈ q then 0 else -1) → (∀ i, i < q.length → ring i = nI (q.getD i 0)) →
      X y_Model_find 4 [some (.ref 169), some (.int (nI wh)), some (.int (nI q.length)), some (.int (nI c)), o4, o5] [] (hp F (hM C wh row ring) J G) Q := by
  intro d
  induction d with
  | zero =>
    intro c hc q row ring o4 o5 h1 h2 h3 h4
    have : c = 576 := by omega
    subst this
    iterate 2 (refine X_s rfl rfl ?_)
    refine X_bt rfl rfl rfl (Int32.le_refl _) ?_
    iterate 2 (refine X_s rfl rfl ?_)
    exact kk q row ring o4 o5 (Bf_init h1 (fun z hz => ((h2 z).mp hz).1) (fun z hz hq => by rw [h3 z hz, if_neg hq]) (fun z hz => by rw [h3 z ((h2 z).mp hz).1, if_pos hz]) (fun z hz => ⟨fun hg => (h2 z).mpr ⟨hz, hg⟩, fun hm => ((h2 z).mp hm).2⟩)) h4
  | succ d ih =>
    intro c hc q row ring o4 o5 h1 h2 h3 h4
    have hlen : q.length ≤ c := pig c q h1 (fun z hz => ((h2 z).mp hz).1)
    have again : ∀ (q : List Nat) (row ring : Nat → Int32) (o4 o5 : Option Value), q.Nodup → (∀ z, z ∈ q ↔ z < c + 1 ∧ glM C wh z) → (∀ z, z < c + 1 → row z = if z ∈ q then 0 else -1) → (∀ i, i < q.length → ring i = nI (q.getD i 0)) →
        X y_Model_find 56 [some (.ref 169), some (.int (nI wh)), some (.int (nI q.length)), some (.int (nI c)), o4, o5] [] (hp F (hM C wh row ring) J G) Q := by
      intro q row ring o4 o5 g1 g2 g3 g4
      iterate 2 (refine X_s rfl rfl ?_)
      have h := ih (c + 1) (by omega) q row ring o4 o5 g1 g2 g3 g4
      rw [← nI_1'] at h
      exact h
    iterate 2 (refine X_s rfl rfl ?_)
    refine X_bf rfl rfl rfl (nI_ge (b := 576) (show c < 576 by omega) (by decide)) ?_
    iterate 3 (refine X_s rfl rfl ?_)
    refine X_c (Q' := fun o h' => h' = hp F (hM C wh row ring) J G ∧ ((glM C wh c ∧ o = .inl (some (.int 1))) ∨ (¬ glM C wh c ∧ o = .inl (some (.int 0))))) rfl rfl rfl rfl (Y_isGoal (show c < 576 by omega) hw8 (fun hg => ⟨rfl, Or.inl ⟨glM_o.mp hg, rfl⟩⟩) (fun hg => ⟨rfl, Or.inr ⟨fun h => hg (glM_o.mpr h), rfl⟩⟩)) ?_ ?_
    · rintro v h' ⟨rfl, ⟨hg, ev⟩ | ⟨hg, ev⟩⟩
      · cases ev
        have hnq : c ∉ q := fun hm => absurd ((h2 c).mp hm).1 (by omega)
        iterate 9 (refine X_s rfl rfl ?_)
        refine X_bf rfl rfl rfl (show ¬ (1 : Int32) = 0 by decide) ?_
        iterate 2 (refine X_s rfl rfl ?_)
        refine X_ti rfl hM_atn (by omega) (e576 wh c) (show 576 * wh + c < 5184 by omega) (by omega) ?_
        refine X_h (hp_stA (k := 179) rfl rfl) ?_
        rw [hM_sn (show c < 576 by omega)]
        refine X_s rfl rfl ?_
        refine X_bf rfl rfl rfl (show ¬ (1 : Int32) = 0 by decide) ?_
        iterate 4 (refine X_s rfl rfl ?_)
        refine X_ti rfl hM_atr (by omega) rfl (show q.length < 576 by omega) (by omega) ?_
        refine X_h (hp_stA (k := 180) rfl rfl) ?_
        rw [hM_sr]
        refine X_s rfl rfl ?_
        have h := again (q ++ [c]) (upd row c 0) (upd ring q.length (nI c)) (some (.int 1)) o5 (by rw [List.nodup_append]; exact ⟨h1, by simp, fun a ha b hb => by simp at hb; rw [hb]; exact fun e => hnq (e ▸ ha)⟩) (fun z => by
            constructor
            · intro hz
              rcases List.mem_append.mp hz with hz | hz
              · exact ⟨by have := ((h2 z).mp hz).1; omega, ((h2 z).mp hz).2⟩
              · simp at hz; subst hz; exact ⟨by omega, hg⟩
            · rintro ⟨hz, hg2⟩
              by_cases e9 : z = c
              · subst e9; simp
              · exact List.mem_append_left _ ((h2 z).mpr ⟨by omega, hg2⟩)) (fun z hz => by
            show (if z = c then 0 else row z) = _
            by_cases e9 : z = c
            · subst e9; rw [if_pos rfl, if_pos (by simp)]
            · rw [if_neg e9, h3 z (by omega)]
              by_cases hm : z ∈ q
              · rw [if_pos hm, if_pos (List.mem_append_left _ hm)]
              · rw [if_neg hm, if_neg (by simp [hm, e9])]) (fun i hi => by
            simp only [List.length_append, List.length_singleton] at hi
            rcases Nat.lt_or_ge i q.length with hl2 | hl2
            · rw [getD_app hl2]
              show (if i = q.length then _ else ring i) = _
              rw [if_neg (by omega)]; exact h4 i hl2
            · have : i = q.length := by omega
              subst this
              rw [getD_last]
              exact if_pos rfl)
        rw [List.length_append, List.length_singleton, ← nI_1'] at h
        exact h
      · cases ev
        have hnq : c ∉ q := fun hm => absurd ((h2 c).mp hm).1 (by omega)
        iterate 9 (refine X_s rfl rfl ?_)
        refine X_bt rfl rfl rfl (show (0 : Int32) = 0 from rfl) ?_
        refine X_s rfl rfl ?_
        refine X_ti rfl hM_atn (by omega) (e576 wh c) (show 576 * wh + c < 5184 by omega) (by omega) ?_
        refine X_h (hp_stA (k := 179) rfl rfl) ?_
        rw [hM_sn (show c < 576 by omega)]
        refine X_s rfl rfl ?_
        refine X_bt rfl rfl rfl (show (0 : Int32) = 0 from rfl) ?_
        exact again q (upd row c (-1)) ring (some (.int 0)) o5 h1 (fun z => by
            rw [h2 z]
            constructor
            · rintro ⟨a, b⟩; exact ⟨by omega, b⟩
            · rintro ⟨a, b⟩
              by_cases e9 : z = c
              · subst e9; exact absurd b hg
              · exact ⟨by omega, b⟩) (fun z hz => by
            show (if z = c then -1 else row z) = _
            by_cases e9 : z = c
            · subst e9; rw [if_pos rfl, if_neg hnq]
            · rw [if_neg e9, h3 z (by omega)]) h4
    · rintro x h' ⟨-, ⟨-, ev⟩ | ⟨-, ev⟩⟩ <;> cases ev
theorem Y_mfind (hF : okF F) (hw8 : wh ≤ 8) (hwal : ∀ c, c < 576 → C 170 c = 0 ∨ C 170 c = 1) (hgo : ∀ c, c < 576 → glM C wh c → opM F C c) :
    Y y_Model_find [.ref 169, .int (nI wh)] (hp F C J G) (fun o h' => ∃ row ring, o = .inl none ∧ h' = hp F (hM C wh row ring) J G ∧ rowOkM F C wh row) := by
  unfold Y
  iterate 4 (refine X_s rfl rfl ?_)
  have h := Y_mfind_goals (F := F) (C := C) (J := J) (G := G) (wh := wh) (Q := fun o h' => ∃ row ring, o = .inl none ∧ h' = hp F (hM C wh row ring) J G ∧ rowOkM F C wh row) hw8 (fun q row ring o4 o5 B hq => Y_mfind_out hF hw8 hwal hgo (fun row ring hr => ⟨row, ring, rfl, rfl, hr⟩) 576 0 (by omega) q row ring _ o4 o5 B hq) 576 0 (by omega) [] (fun c => C 179 (576 * wh + c)) (C 180) none none (by simp) (fun z => by simp) (fun z hz => by omega) (fun i hi => by simp at hi)
  rw [hM_start] at h
  exact h
end
end
section
/-! the reference's learn -/
/-- a cell's number in the reference's table -/
def nuM (C : Ct) (wh c : Nat) : Int32 := C 179 (576 * wh + c)
/-- where 'known' says so, all numbers are there -/
def okL (F : Fx) (C : Ct) : Prop := C 169 14 = 0 ∨ (C 169 14 = 1 ∧ ∀ wh, wh ≤ 8 → rowOkM F C wh (nuM C wh))
/-- only the numbers, the ring and 'known' differ -/
def sameL (C C' : Ct) : Prop := (∀ k, k ≠ 179 → k ≠ 180 → k ≠ 169 → C' k = C k) ∧ ∀ j, j ≠ 14 → C' 169 j = C 169 j
theorem sameL_rf (C : Ct) : sameL C C := ⟨fun _ _ _ _ => rfl, fun _ _ => rfl⟩
theorem sameL_tr {A B C : Ct} (h1 : sameL A B) (h2 : sameL B C) : sameL A C := ⟨fun k a b c => (h2.1 k a b c).trans (h1.1 k a b c), fun j a => (h2.2 j a).trans (h1.2 j a)⟩
section
variable {F : Fx} {C : Ct} {J : Nat → Int64} {G : Ex}
theorem sameL_hM {wh : Nat} {row ring : Nat → Int32} : sameL C (hM C wh row ring) := ⟨fun k a b _ => hM_o a b, fun j _ => by rw [hM_o (by omega) (by omega)]⟩
theorem nbM_same {C C' : Ct} (h : C' 170 = C 170) : nbM F C' = nbM F C := by
  funext c w; unfold nbM; rw [h]
theorem rowOkM_same {C C' : Ct} (h : sameL C C') {wh : Nat} {row : Nat → Int32} (hr : rowOkM F C wh row) : rowOkM F C' wh row := by
  have e1 : nbM F C' = nbM F C := nbM_same (h.1 170 (by omega) (by omega) (by omega))
  have e2 : glM C' wh = glM C wh := by funext c; unfold glM; rw [h.1 171 (by omega) (by omega) (by omega)]
  have e3 : opM F C' = opM F C := by funext c; unfold opM; rw [h.1 170 (by omega) (by omega) (by omega)]
  unfold rowOkM
  rw [e1, e2, e3]
  exact hr
theorem nuM_same {wh w' : Nat} {row ring : Nat → Int32} : nuM (hM C wh row ring) w' = if w' = wh then (fun c => if c < 576 then row c else nuM (hM C wh row ring) w' c) else (fun c => if c < 576 then nuM C w' c else nuM (hM C wh row ring) w' c) := by
  funext c
  by_cases e : w' = wh
  · subst e
    rw [if_pos rfl]
    by_cases hc : c < 576
    · simp only [hc, if_true]
      unfold nuM
      rw [hM_n, spl_at hc]
    · simp only [hc, if_false]
  · rw [if_neg e]
    by_cases hc : c < 576
    · simp only [hc, if_true]
      unfold nuM
      rw [hM_n]
      unfold spl
      rw [if_neg (by omega)]
    · simp only [hc, if_false]
theorem rowOkM_ext {wh : Nat} {r r' : Nat → Int32} (h : ∀ c, c < 576 → r' c = r c) (hr : rowOkM F C wh r) : rowOkM F C wh r' := fun c hc => by rw [h c hc]; exact hr c hc
/-- what the reference's storey must hold -/
def okMS (F : Fx) (C : Ct) : Prop := (∀ c, c < 576 → C 170 c = 0 ∨ C 170 c = 1) ∧ ∀ c, c < 576 → ¬ C 171 c = -1 → (∃ x, x < 8 ∧ C 171 c = nI x) ∧ opM F C c
theorem okMS.goal (h : okMS F C) {wh : Nat} (hw : wh ≤ 8) : ∀ c, c < 576 → glM C wh c → opM F C c := by
  intro c hc hg
  refine (h.2 c hc (fun e => ?_)).2
  unfold glM at hg
  split at hg
  · rw [e] at hg; exact absurd hg (by decide)
  · rw [e] at hg; exact nI_nm1 (a := wh) (by omega) hg.symm
theorem okMS_same {C C' : Ct} (h : sameL C C') (hm : okMS F C) : okMS F C' := by
  unfold okMS opM
  rw [h.1 170 (by omega) (by omega) (by omega), h.1 171 (by omega) (by omega) (by omega)]
  exact hm
theorem Y_learn_loop {Q : mE → mH → Prop} (hF : okF F) (hk0 : C 169 14 = 0)
    (kk : ∀ C', sameL C C' → (∀ wh, wh ≤ 8 → rowOkM F C' wh (nuM C' wh)) → C' 169 14 = 0 → X y_Model_learn 26 [some (.ref 169), some (.int (nI 9))] [] (hp F C' J G) Q) :
    ∀ (d wh : Nat), wh + d = 9 → ∀ C1, sameL C C1 → okMS F C1 → C1 169 14 = 0 → (∀ w', w' < wh → rowOkM F C1 w' (nuM C1 w')) → X y_Model_learn 2 [some (.ref 169), some (.int (nI wh))] [] (hp F C1 J G) Q := by
  intro d
  induction d with
  | zero =>
    intro wh hd C1 hs hm h0 hr
    have : wh = 9 := by omega
    subst this
    iterate 2 (refine X_s rfl rfl ?_)
    refine X_bt rfl rfl rfl (show (8 : Int32) < nI 9 by decide) ?_
    exact kk C1 hs (fun w hw => hr w (by omega)) h0
  | succ d ih =>
    intro wh hd C1 hs hm h0 hr
    iterate 2 (refine X_s rfl rfl ?_)
    refine X_bf rfl rfl rfl (show ¬ (8 : Int32) < nI wh from nI_nlt (b := 8) (a := 8) (by omega) (by omega) |> fun _ => Int32.not_lt.mpr (nI_le (b := 8) (show wh ≤ 8 by omega) (by omega))) ?_
    iterate 2 (refine X_s rfl rfl ?_)
    rw [h0]
    refine X_bf rfl rfl rfl (fun h => h rfl) ?_
    iterate 2 (refine X_s rfl rfl ?_)
    refine X_c rfl rfl rfl rfl (Y_mfind (F := F) (C := C1) (wh := wh) hF (by omega) hm.1 (hm.goal (by omega))) ?_ ?_
    · rintro v h' ⟨row, ring, ev, rfl, hrow⟩
      cases ev
      iterate 2 (refine X_s rfl rfl ?_)
      have hs2 : sameL C1 (hM C1 wh row ring) := sameL_hM
      have h := ih (wh + 1) (by omega) (hM C1 wh row ring) (sameL_tr hs hs2) (okMS_same hs2 hm) (by rw [hM_o (by omega) (by omega)]; exact h0) (fun w' hw' => by
        by_cases e : w' = wh
        · subst e
          refine rowOkM_ext (r := row) (fun c hc => ?_) (rowOkM_same hs2 hrow)
          unfold nuM; rw [hM_n, spl_at hc]
        · refine rowOkM_ext (r := nuM C1 w') (fun c hc => ?_) (rowOkM_same hs2 (hr w' (by omega)))
          unfold nuM; rw [hM_n]; unfold spl; rw [if_neg (by omega)])
      rw [← nI_1'] at h
      exact h
    · rintro x h' ⟨row, ring, ev, -⟩
      cases ev
theorem Y_learn (hF : okF F) (hm : okMS F C) (hL : okL F C) : Y y_Model_learn [.ref 169] (hp F C J G) (fun o h' => ∃ C', o = .inl none ∧ h' = hp F C' J G ∧ sameL C C' ∧ C' 169 14 = 1 ∧ ∀ wh, wh ≤ 8 → rowOkM F C' wh (nuM C' wh)) := by
  unfold Y
  have fin : ∀ C' (i : Nat), sameL C C' → (∀ wh, wh ≤ 8 → rowOkM F C' wh (nuM C' wh)) → X y_Model_learn 26 [some (.ref 169), some (.int (nI i))] [] (hp F C' J G) (fun o h' => ∃ C', o = .inl none ∧ h' = hp F C' J G ∧ sameL C C' ∧ C' 169 14 = 1 ∧ ∀ wh, wh ≤ 8 → rowOkM F C' wh (nuM C' wh)) := by
    intro C' i hs hr
    iterate 3 (refine X_s rfl rfl ?_)
    refine X_h (hp_f169_14 rfl) ?_
    have hs2 : sameL C' (st C' 169 14 1) := ⟨fun k _ _ k3 => st_f k3, fun j hj => st_i hj⟩
    refine X_r rfl rfl rfl rfl ⟨_, rfl, rfl, sameL_tr hs hs2, st_s, fun wh hw => ?_⟩
    refine rowOkM_ext (r := nuM C' wh) (fun c hc => ?_) (rowOkM_same hs2 (hr wh hw))
    unfold nuM
    exact st_k (by omega)
  iterate 2 (refine X_s rfl rfl ?_)
  rcases hL with h0 | ⟨h1, hr⟩
  · exact Y_learn_loop hF h0 (fun C' hs hr _ => fin C' 9 hs hr) 9 0 (by omega) C (sameL_rf C) hm h0 (fun w' hw' => by omega)
  · iterate 2 (refine X_s rfl rfl ?_)
    refine X_bf rfl rfl rfl (show ¬ (8 : Int32) < 0 by decide) ?_
    iterate 2 (refine X_s rfl rfl ?_)
    rw [h1]
    refine X_bt rfl rfl rfl (show ¬ (1 : Int32) = 0 by decide) ?_
    exact fin C 0 (sameL_rf C) hr
end
end
section
/-! THE TWO STOREYS ARE ONE: the class numbers its cells by width * y + x, the reference by 24 * y + x -/
def cm (F : Fx) (c : Nat) : Nat := 24 * (c / F.1) + c % F.1
def mc (F : Fx) (m : Nat) : Nat := (m / 24) * F.1 + m % 24
section
variable {F : Fx} {C : Ct}
theorem cm_div (hF : okF F) {c : Nat} (hc : c < F.1 * F.2.1) : c % F.1 < F.1 ∧ c / F.1 < F.2.1 := by
  obtain ⟨⟨f1, f2⟩, ⟨f3, f4⟩, -⟩ := hF
  exact ⟨Nat.mod_lt _ (by omega), Nat.div_lt_of_lt_mul hc⟩
theorem cm_in (hF : okF F) {c : Nat} (hc : c < F.1 * F.2.1) : cm F c % 24 = c % F.1 ∧ cm F c / 24 = c / F.1 ∧ inS F (cm F c) ∧ cm F c < 576 := by
  obtain ⟨h1, h2⟩ := cm_div hF hc
  obtain ⟨⟨f1, f2⟩, ⟨f3, f4⟩, -⟩ := hF
  unfold inS cm
  generalize c % F.1 = a at *
  generalize c / F.1 = b at *
  refine ⟨by omega, by omega, ⟨by omega, by omega⟩, by omega⟩
theorem mc_cm (hF : okF F) {c : Nat} (hc : c < F.1 * F.2.1) : mc F (cm F c) = c := by
  obtain ⟨h1, h2, -, -⟩ := cm_in hF hc
  unfold mc
  rw [h1, h2, Nat.mul_comm]
  exact Nat.div_add_mod c F.1
theorem mc_lt (hF : okF F) {m : Nat} (hm : inS F m) : mc F m < F.1 * F.2.1 := by
  obtain ⟨h1, h2⟩ := hm
  unfold mc
  calc m / 24 * F.1 + m % 24 < m / 24 * F.1 + F.1 := by omega
    _ = (m / 24 + 1) * F.1 := by rw [Nat.succ_mul]
    _ ≤ F.2.1 * F.1 := Nat.mul_le_mul_right _ h2
    _ = F.1 * F.2.1 := Nat.mul_comm _ _
theorem cm_mc (hF : okF F) {m : Nat} (hm : inS F m) : cm F (mc F m) = m := by
  obtain ⟨⟨f1, f2⟩, ⟨f3, f4⟩, -⟩ := hF
  obtain ⟨h1, h2⟩ := hm
  unfold cm mc
  have e1 : (m / 24 * F.1 + m % 24) / F.1 = m / 24 := by
    rw [Nat.mul_comm, Nat.mul_add_div (by omega), Nat.div_eq_of_lt h1, Nat.add_zero]
  have e2 : (m / 24 * F.1 + m % 24) % F.1 = m % 24 := by
    rw [Nat.mul_comm, Nat.mul_add_mod, Nat.mod_eq_of_lt h1]
  rw [e1, e2]
  omega
theorem cm_inj (hF : okF F) {c d : Nat} (hc : c < F.1 * F.2.1) (hd : d < F.1 * F.2.1) (h : cm F c = cm F d) : c = d := by
  rw [← mc_cm hF hc, ← mc_cm hF hd, h]
/-- 'besides' is laid by the cells' places -/
def okG (F : Fx) (C : Ct) : Prop := ∀ c, c < F.1 * F.2.1 → ∀ w, w < 4 → C 9 (c * 4 + w) = (match bsN F (cm F c) w with | some m => nI (mc F m) | none => -1)
theorem okG.B (hF : okF F) (h : okG F C) : okB F C := by
  intro c hc w hw
  rw [h c hc w hw]
  cases hb : bsN F (cm F c) w with
  | none => exact Or.inl rfl
  | some m => exact Or.inr ⟨mc F m, mc_lt hF (bsN_in hF hb).1, rfl⟩
theorem okG.sym (hF : okF F) (h : okG F C) : ∀ c, c < F.1 * F.2.1 → ∀ w, w < 4 → ∀ d, d < F.1 * F.2.1 → C 9 (c * 4 + w) = nI d → ∃ w', w' < 4 ∧ C 9 (d * 4 + w') = nI c := by
  intro c hc w hw d hd e
  have hn := hF.n
  rw [h c hc w hw] at e
  cases hb : bsN F (cm F c) w with
  | none => rw [hb] at e; exact absurd e.symm (nI_nm1 (by omega))
  | some m =>
    rw [hb] at e
    dsimp only at e
    have hm := bsN_in hF hb
    have hmd : mc F m = d := (nI_eq (by have := mc_lt hF hm.1; omega) (by omega)).mp e
    obtain ⟨w', hw', e2⟩ := bsN_sym hF (cm_in hF hc).2.2.1 hw hb
    refine ⟨w', hw', ?_⟩
    rw [h d hd w' hw', ← hmd, cm_mc hF hm.1, e2]
    dsimp only
    rw [mc_cm hF hc]
/-- the two storeys hold the same -/
def rS (F : Fx) (C : Ct) : Prop := (∀ c, c < F.1 * F.2.1 → C 170 (cm F c) = (if C 2 c = 1 then 1 else 0) ∧ C 171 (cm F c) = C 5 c) ∧ (∀ m, m < 576 → ¬ inS F m → C 170 m = 0 ∧ C 171 m = -1) ∧ C 169 7 = C 1 11
theorem nb_iso (hF : okF F) (hg : okG F C) (hr : rS F C) {c w : Nat} (hc : c < F.1 * F.2.1) (hw : w < 4) : nbC C c w = (nbM F C (cm F c) w).map (mc F) := by
  have hn := hF.n
  unfold nbC opB nbM
  rw [hg c hc w hw]
  cases hb : bsN F (cm F c) w with
  | none => simp
  | some m =>
    dsimp only
    have hm := bsN_in hF hb
    have hlt := mc_lt hF hm.1
    have h170 := (hr.1 (mc F m) hlt).1
    rw [cm_mc hF hm.1] at h170
    rw [nI_clamp (by omega), h170]
    by_cases hx : C 2 (mc F m) = 1
    · rw [if_pos (Or.inr hx), if_pos hx, if_pos rfl, if_neg (by decide)]
      rfl
    · have e : (if nI (mc F m) = -1 ∨ C 2 (mc F m) = 1 then (-1 : Int32) else nI (mc F m)) = nI (mc F m) := if_neg (fun h => h.elim (nI_nm1 (a := mc F m) (by omega)) hx)
      rw [e, if_neg (nI_nm1 (a := mc F m) (by omega)), if_neg hx, if_pos rfl, nI_clamp (by omega)]
      rfl
theorem op_iso (hF : okF F) (hr : rS F C) {c : Nat} (hc : c < F.1 * F.2.1) : opC C c ↔ opM F C (cm F c) := by
  unfold opC opM
  rw [(hr.1 c hc).1]
  by_cases hx : C 2 c = 1
  · rw [if_pos hx]
    exact ⟨fun h => absurd hx h, fun h => absurd h.2 (by decide)⟩
  · rw [if_neg hx]
    exact ⟨fun _ => ⟨(cm_in hF hc).2.2.1, rfl⟩, fun _ => hx⟩
/-- a goal of the class, a goal of the reference -/
def gw (g : Int32) (wh : Nat) : Prop := (g = -1 ∧ wh = 8) ∨ (g = nI wh ∧ wh < 8)
theorem gl_iso (hF : okF F) (hS : okS F C) (hr : rS F C) {g : Int32} {wh : Nat} (hgw : gw g wh) {c : Nat} (hc : c < F.1 * F.2.1) : glC C g c ↔ glM C wh (cm F c) := by
  have hn := hF.n
  obtain ⟨n8, hX8, hX, hE, hI⟩ := hS.2.2
  unfold glC glM
  rw [(hr.1 c hc).2, hX]
  have fwd : ∀ x, nI x < nI n8 → x < 8 → C 6 x = nI c → C 5 c = nI x := by
    intro x hx hx8 e
    have hxX : x < n8 := (nI_ltI (by omega) (by omega)).mp hx
    rcases hE x hxX with q | ⟨c', hc', q6, q5, -⟩
    · rw [q] at e; exact absurd e.symm (nI_nm1 (by omega))
    · rw [q6] at e
      have : c' = c := (nI_eq (by omega) (by omega)).mp e
      subst this
      exact q5
  rcases hgw with ⟨rfl, rfl⟩ | ⟨rfl, h8⟩
  · rw [if_pos rfl]
    constructor
    · rintro ⟨x, hx, hx8, e, -⟩
      rw [fwd x hx hx8 e]; exact nI_pos' (by omega)
    · intro h
      rcases hI c hc with ⟨q, -⟩ | ⟨x, hx, q5, q6, -⟩
      · rw [q] at h; exact absurd h (by decide)
      · exact ⟨x, nI_lt hx (by omega), by omega, q6, Or.inl rfl⟩
  · rw [if_neg (by omega)]
    constructor
    · rintro ⟨x, hx, hx8, e, hs⟩
      rcases hs with hs | hs
      · exact absurd hs (nI_nm1 (by omega))
      · have : wh = x := (nI_eq (by omega) (by omega)).mp hs
        subst this
        exact fwd _ hx hx8 e
    · intro h
      rcases hI c hc with ⟨q, -⟩ | ⟨x, hx, q5, q6, -⟩
      · rw [q] at h; exact absurd h.symm (nI_nm1 (by omega))
      · rw [q5] at h
        have : x = wh := (nI_eq (by omega) (by omega)).mp h
        subst this
        exact ⟨x, nI_lt hx (by omega), by omega, q6, Or.inr rfl⟩
theorem rch_iso (hF : okF F) (hS : okS F C) (hg : okG F C) (hr : rS F C) {g : Int32} {wh : Nat} (hgw : gw g wh) : ∀ k c, c < F.1 * F.2.1 → (Rch (F.1 * F.2.1) (nbC C) (glC C g) (opC C) k c ↔ Rch 576 (nbM F C) (glM C wh) (opM F C) k (cm F c)) := by
  intro k
  induction k with
  | zero =>
    intro c hc
    show c < F.1 * F.2.1 ∧ glC C g c ↔ cm F c < 576 ∧ glM C wh (cm F c)
    rw [gl_iso hF hS hr hgw hc]
    exact ⟨fun h => ⟨(cm_in hF hc).2.2.2, h.2⟩, fun h => ⟨hc, h.2⟩⟩
  | succ k ih =>
    intro c hc
    show (_ ∨ _) ↔ (_ ∨ _)
    rw [ih c hc, op_iso hF hr hc]
    constructor
    · rintro (h | ⟨ho, w, d, hw, hd, h⟩)
      · exact Or.inl h
      · right
        rw [nb_iso hF hg hr hc hw] at hd
        cases hb : nbM F C (cm F c) w with
        | none => rw [hb] at hd; cases hd
        | some m =>
          rw [hb] at hd
          cases hd
          have hm := (nbM_in hF hb).2.1
          refine ⟨ho, w, m, hw, hb, ?_⟩
          rw [ih _ (mc_lt hF hm), cm_mc hF hm] at h
          exact h
    · rintro (h | ⟨ho, w, m, hw, hb, h⟩)
      · exact Or.inl h
      · right
        have hm := (nbM_in hF hb).2.1
        refine ⟨ho, w, mc F m, hw, by rw [nb_iso hF hg hr hc hw, hb]; rfl, ?_⟩
        rw [ih _ (mc_lt hF hm), cm_mc hF hm]
        exact h
/-- the numbers are the same -/
theorem num_eq (hF : okF F) (hS : okS F C) (hg : okG F C) (hr : rS F C) {g : Int32} {wh : Nat} (hgw : gw g wh) {row rowM : Nat → Int32} (h1 : rowOk F C g row) (h2 : rowOkM F C wh rowM) {c : Nat} (hc : c < F.1 * F.2.1) : row c = rowM (cm F c) := by
  have iso := fun k => rch_iso hF hS hg hr hgw k c hc
  rcases h1 c hc with ⟨e1, n1⟩ | ⟨d, hd, e1, n1, n2⟩ <;> rcases h2 (cm F c) (cm_in hF hc).2.2.2 with ⟨e2, m1⟩ | ⟨d', hd', e2, m1, m2⟩
  · rw [e1, e2]
  · exact absurd ((iso d').mpr m1) (n1 d')
  · exact absurd ((iso d).mp n1) (m1 d)
  · rw [e1, e2]
    congr 1
    rcases Nat.lt_trichotomy d d' with q | q | q
    · exact absurd ((iso d).mp n1) (m2 d q)
    · exact q
    · exact absurd ((iso d').mpr m1) (n2 d' q)
/-- beyond the storey there are no numbers -/
theorem num_out (hm : okMS F C) {wh : Nat} (hw : wh ≤ 8) {rowM : Nat → Int32} (h2 : rowOkM F C wh rowM) {m : Nat} (h5 : m < 576) (ho : ¬ inS F m) : rowM m = -1 := by
  rcases h2 m h5 with ⟨e, -⟩ | ⟨d, hd, e, n1, -⟩
  · exact e
  · exfalso
    cases d with
    | zero => exact ho (hm.goal hw m h5 n1.2).1
    | succ d => exact ho (rch_op (hm.goal hw) d m n1).1
end
end
section
/-! rules of the later walks -/
def nPut (i : Instr) : Bool := match i with
  | .putfield _ => false
  | _ => true
section XR5
variable {y pc len tgt pc' : Nat} {i : Instr} {L L' : mL} {S S' : List Value} {h h' : mH} {Q : mE → mH → Prop}
theorem X_n (h1 : m_at y pc = some (i, len, tgt)) (h0 : nPut i = true) (h2 : m_step y pc i len tgt L S h = some (pc', L', S', h')) (k : X y pc' L' S' h' Q) : X y pc L S h Q := X_s h1 h2 k
/-- a call, and what follows -/
theorem X_k {y' : Nat} (h1 : m_at y pc = some (i, len, tgt)) (h2 : m_go y pc i len tgt L S h = none) (h3 : m_inv y i = some y') (h4 : m_may y y' S h = true) (hY : Y y' (S.take (m_na y')).reverse h (fun o h' => match o with
    | .inl v => X y (pc + 3) L (v.toList ++ S.drop (m_na y')) h' Q
    | .inr x => (match m_catch y pc h' x with | some t => X y t L [.ref x] h' Q | none => Q (.inr x) h'))) : X y pc L S h Q :=
  X_c h1 h2 h3 h4 hY (fun _ _ q => q) (fun _ _ q => q)
/-- the same number on the stack's top -/
theorem X_top {v w : Int32} (e : v = w) (k : X y pc L (.int w :: S) h Q) : X y pc L (.int v :: S) h Q := e ▸ k
/-- a branch on a boolean -/
theorem X_z {P : Prop} [Decidable P] {o : Int} (h1 : m_at y pc = some (.ifCond .eq o, len, tgt)) (kt : ¬ P → X y tgt L S h Q) (kf : P → X y (pc + len) L S h Q) : X y pc L (.int (bI (decide P)) :: S) h Q := by
  by_cases p : P
  · rw [decide_eq_true p]; exact X_bf h1 rfl rfl bI_t0 (kf p)
  · rw [decide_eq_false p]; exact X_bt h1 rfl rfl bI_f0 (kt p)
theorem X_nz {P : Prop} [Decidable P] {o : Int} (h1 : m_at y pc = some (.ifCond .ne o, len, tgt)) (kt : P → X y tgt L S h Q) (kf : ¬ P → X y (pc + len) L S h Q) : X y pc L (.int (bI (decide P)) :: S) h Q := by
  by_cases p : P
  · rw [decide_eq_true p]; exact X_bt h1 rfl rfl bI_t0 (kt p)
  · rw [decide_eq_false p]; exact X_bf h1 rfl rfl (fun h => h bI_f0) (kf p)
end XR5
theorem lv_le {n : Nat} (hn : n ≤ 576) : ∀ c, lv n c ≤ 36000 := by
  intro c
  unfold lv
  split <;> omega
theorem ln_lt {F : Fx} (hF : okF F) (k : Nat) : ln (F.1 * F.2.1) k < 2 ^ 31 := by
  have := lv_le hF.n (lc k)
  unfold ln
  omega
section
variable {F : Fx} {C : Ct} {J : Nat → Int64} {G : Ex} {y pc tgt a k : Nat} {j v : Int32} {L : mL} {S : List Value} {Q : mE → mH → Prop}
theorem X_la (h1 : m_at y pc = some (.iaload, 1, tgt)) (ha : kd a = 1) (hj : j = nI k) (hF : okF F) (hk : k < ln (F.1 * F.2.1) a) (kk : X y (pc + 1) L (.int (C a k) :: S) (hp F C J G) Q) : X y pc L (.int j :: .ref a :: S) (hp F C J G) Q :=
  X_li h1 (hp_at ha rfl) hj hk (ln_lt hF a) kk
theorem hp_atz (hk : kd a = 2) : (hp F C J G).1 a = mZ (ln (F.1 * F.2.1) a) (C a) := by
  show hf F C J G a = _
  rw [hf_lt (kd_lt (Or.inr hk)), sh, hk]
  rfl
theorem X_lb (h1 : m_at y pc = some (.baload, 1, tgt)) (ha : kd a = 2) (hj : j = nI k) (hF : okF F) (hk : k < ln (F.1 * F.2.1) a) (kk : X y (pc + 1) L (.int (C a k) :: S) (hp F C J G) Q) : X y pc L (.int j :: .ref a :: S) (hp F C J G) Q :=
  X_lz h1 (hp_atz ha) hj hk (ln_lt hF a) kk
theorem X_sa (h1 : m_at y pc = some (.iastore, 1, tgt)) (ha : kd a = 1) (hj : j = nI k) (hF : okF F) (hk : k < ln (F.1 * F.2.1) a) (kk : X y (pc + 1) L S (hp F (st C a k v) J G) Q) : X y pc L (.int v :: .int j :: .ref a :: S) (hp F C J G) Q := by
  refine X_ti h1 (hp_at ha rfl) (Nat.lt_trans (kd_lt (Or.inl ha)) (by decide)) hj hk (ln_lt hF a) ?_
  rw [hp_st ha rfl]
  exact kk
theorem X_sb (h1 : m_at y pc = some (.bastore, 1, tgt)) (ha : kd a = 2) (hv : v = 0 ∨ v = 1) (hj : j = nI k) (hF : okF F) (hk : k < ln (F.1 * F.2.1) a) (kk : X y (pc + 1) L S (hp F (st C a k v) J G) Q) : X y pc L (.int v :: .int j :: .ref a :: S) (hp F C J G) Q := by
  refine X_tn (a := a) (S' := S) (c := fun k => mZ (ln (F.1 * F.2.1) a) (upd (C a) k v)) h1 rfl rfl rfl ?_ hj hk (ln_lt hF a) ?_
  · have h2 : decide (a < m_sB) = true := decide_eq_true (Nat.lt_trans (kd_lt (Or.inr ha)) (by decide))
    have h3 : (decide (v = 0) || decide (v = 1)) = true := by rcases hv with rfl | rfl <;> rfl
    simp only [m_as, hp_atz ha, h2, h3]
    rfl
  · rw [hp_stz ha rfl]
    exact kk
/-- an exception's object more -/
def gx (G : Ex) (ci : Nat) : Ex := (fun k => if k = 194 + G.2.1 then mO ci [] else G.1 k, G.2.1 + 1, G.2.2 + 6)
def okX (G : Ex) (t : Nat) : Prop := G.2.1 ≤ t ∧ G.2.2 ≤ 1000000 + 6 * t ∧ t ≤ 1000
theorem okX.gx {G : Ex} {t : Nat} (h : okX G t) (ht : t < 1000) (ci : Nat) : okX (gx G ci) (t + 1) := by
  obtain ⟨h1, h2, h3⟩ := h
  exact ⟨by show G.2.1 + 1 ≤ t + 1; omega, by show G.2.2 + 6 ≤ 1000000 + 6 * (t + 1); omega, by omega⟩
theorem okX.s {G : Ex} {t : Nat} (h : okX G t) (ht : t < 1000) : okX G (t + 1) := by
  obtain ⟨h1, h2, h3⟩ := h
  exact ⟨by omega, by omega, by omega⟩
theorem hp_push {t ci : Nat} (hG : okX G t) : m_push (hp F C J G) (mO ci []) 6 = hp F C J (gx G ci) := by
  obtain ⟨h1, h2, h3⟩ := hG
  refine Prod.ext (funext fun k => ?_) (Prod.ext ?_ rfl)
  · show (if k = 194 + G.2.1 then mO ci [] else hf F C J G k) = hf F C J (gx G ci) k
    by_cases e : k = 194 + G.2.1
    · rw [if_pos e]
      have b1 : Nat.blt k 194 = false := by rw [Bool.eq_false_iff]; intro q; rw [Nat.blt_eq] at q; omega
      have b2 : Nat.blt k 1000000000 = true := by rw [Nat.blt_eq]; omega
      rw [hf, b1, b2, cond_false, cond_true]
      show _ = (if k = 194 + G.2.1 then mO ci [] else G.1 k)
      rw [if_pos e]
    · rw [if_neg e]
      unfold hf
      congr 2
      show _ = (if k = 194 + G.2.1 then mO ci [] else G.1 k)
      rw [if_neg e]
  · show 194 + G.2.1 + 1 = 194 + (G.2.1 + 1)
    omega
/-- a throw -/
theorem X_w {t x ci len : Nat} {i : Instr} (hG : okX G t) (h1 : m_at y pc = some (i, len, tgt)) (h2 : m_go y pc i len tgt L S (hp F C J G) = none) (h3 : m_inv y i = none) (h4 : m_ret y i S = none) (h5 : m_thr y pc i S (hp F C J G) = some (194 + G.2.1, m_push (hp F C J G) (mO ci []) 6)) (k : Q (.inr (194 + G.2.1)) (hp F C J (gx G ci))) : X y pc L S (hp F C J G) Q := by
  rw [hp_push hG] at h5
  exact X_x h1 h2 h3 h4 h5 k
theorem hp_exc {t ci : Nat} (hG : okX G t) : (hp F C J (gx G ci)).1 (194 + G.2.1) = mO ci [] := by
  rw [← hp_push hG]
  exact if_pos rfl
theorem catch_ex {t ci : Nat} (hG : okX G t) : m_catch y pc (hp F C J (gx G ci)) (194 + G.2.1) = ((m_hd y).find? (fun r => (Nat.ble r.1 pc && Nat.blt pc r.2.1) && Nat.beq r.2.2.2 ci)).map (fun r => r.2.2.1) := by
  unfold m_catch
  rw [hp_exc hG]
/-- a cell of the storey, or none -/
theorem cell_or (F : Fx) (hF : okF F) (x z : Int32) : (∃ i j, i < F.1 ∧ j < F.2.1 ∧ x = nI i ∧ z = nI j) ∨ (x < 0 ∨ nI F.1 ≤ x ∨ z < 0 ∨ nI F.2.1 ≤ z) := by
  obtain ⟨⟨f1, f2⟩, ⟨f3, f4⟩, -⟩ := hF
  by_cases h1 : x < 0
  · exact Or.inr (Or.inl h1)
  by_cases h2 : nI F.1 ≤ x
  · exact Or.inr (Or.inr (Or.inl h2))
  by_cases h3 : z < 0
  · exact Or.inr (Or.inr (Or.inr (Or.inl h3)))
  by_cases h4 : nI F.2.1 ≤ z
  · exact Or.inr (Or.inr (Or.inr (Or.inr h4)))
  left
  obtain ⟨i, hi, e⟩ := nI_of h1
  obtain ⟨j, hj, e2⟩ := nI_of h3
  subst e; subst e2
  exact ⟨i, j, (nI_ltI (by omega) (by omega)).mp (Int32.not_le.mp h2), (nI_ltI (by omega) (by omega)).mp (Int32.not_le.mp h4), rfl, rfl⟩
end
end
section
/-! the class's calls that change the storey and its people -/
section
variable {F : Fx} {C : Ct} {J : Nat → Int64} {G : Ex} {Q : mE → mH → Prop} {t : Nat}
/-- cellOf: both ways -/
theorem Y_cellOfK {x z : Int32} (hF : okF F) (kn : (x < 0 ∨ nI F.1 ≤ x ∨ z < 0 ∨ nI F.2.1 ≤ z) → Q (.inl (some (.int (-1)))) (hp F C J G)) (ky : ∀ i j, i < F.1 → j < F.2.1 → x = nI i → z = nI j → Q (.inl (some (.int (nI (j * F.1 + i))))) (hp F C J G)) : Y y_Storey_cellOf [.ref 1, .int x, .int z] (hp F C J G) Q := by
  rcases cell_or F hF x z with ⟨i, j, hi, hj, rfl, rfl⟩ | h
  · exact (Y_cellOf hF hi hj).to (ky i j hi hj rfl rfl)
  · exact (Y_cellOf_no hF h).to (kn h)
theorem ji_lt {i j : Nat} (hi : i < F.1) (hj : j < F.2.1) : j * F.1 + i < F.1 * F.2.1 := by
  calc j * F.1 + i < j * F.1 + F.1 := by omega
    _ = (j + 1) * F.1 := by rw [Nat.succ_mul]
    _ ≤ F.2.1 * F.1 := Nat.mul_le_mul_right _ hj
    _ = F.1 * F.2.1 := Nat.mul_comm _ _
theorem Y_smoke {x z s : Int32} (hF : okF F) (hG : okX G t)
    (k7 : (x < 0 ∨ nI F.1 ≤ x ∨ z < 0 ∨ nI F.2.1 ≤ z) ∨ ¬ (-1 ≤ s ∧ s ≤ 3600) → Q (.inr (194 + G.2.1)) (hp F C J (gx G 7)))
    (kr : ∀ i j, i < F.1 → j < F.2.1 → x = nI i → z = nI j → (-1 ≤ s ∧ s ≤ 3600) → Q (.inl (some (.int (C 4 (j * F.1 + i))))) (hp F (st (st C 4 (j * F.1 + i) s) 0 5 0) J G)) :
    Y y_Esc_smoke [.ref 0, .int x, .int z, .int s] (hp F C J G) Q := by
  unfold Y
  have hn := hF.n
  repeat (refine X_n rfl rfl rfl ?_)
  refine X_k rfl rfl rfl rfl (Y_cellOfK hF (fun h => ?_) (fun i j hi hj e1 e2 => ?_))
  · repeat (refine X_n rfl rfl rfl ?_)
    refine X_bt rfl rfl rfl rfl ?_
    exact X_w (x := 0) hG rfl rfl rfl rfl rfl (k7 (Or.inl h))
  · have hc := ji_lt hi hj
    repeat (refine X_n rfl rfl rfl ?_)
    refine X_bf rfl rfl rfl (nI_nm1 (by omega)) ?_
    repeat (refine X_n rfl rfl rfl ?_)
    refine X_cd rfl rfl rfl rfl Y_isWithin ?_
    refine X_nz rfl (fun q => ?_) (fun q => ?_)
    · repeat (refine X_n rfl rfl rfl ?_)
      refine X_la rfl rfl rfl hF hc ?_
      repeat (refine X_n rfl rfl rfl ?_)
      refine X_sa rfl rfl rfl hF hc ?_
      repeat (refine X_n rfl rfl rfl ?_)
      refine X_s rfl rfl ?_
      refine X_h (hp_f0_5 rfl) ?_
      repeat (refine X_n rfl rfl rfl ?_)
      exact X_r rfl rfl rfl rfl (kr i j hi hj e1 e2 q)
    · exact X_w (x := 0) hG rfl rfl rfl rfl rfl (k7 (Or.inr q))
theorem st_stA {C : Ct} {k i : Nat} {f : Nat → Int32} {v : Int32} : st (stA C k f) k i v = stA C k (upd f i v) := by
  funext k'
  unfold st stA
  by_cases e : k' = k
  · rw [if_pos e, if_pos e, if_pos rfl]
  · rw [if_neg e, if_neg e, if_neg e]
theorem stA_self {C : Ct} {k : Nat} : stA C k (C k) = C := by
  funext k'
  unfold stA
  by_cases e : k' = k
  · rw [if_pos e, e]
  · rw [if_neg e]
/-- no row is known any more -/
def fgt (C : Ct) : Ct := stA C 21 (flt (C 21) 0 9)
theorem Y_forget_loop (hF : okF F) (k : Q (.inl none) (hp F (fgt C) J G)) : ∀ (d i : Nat), i + d = 9 → X y_Numbers_forget 2 [some (.ref 10), some (.int (nI i))] [] (hp F (stA C 21 (flt (C 21) 0 i)) J G) Q := by
  intro d
  induction d with
  | zero =>
    intro i hi
    have : i = 9 := by omega
    subst this
    repeat (refine X_n rfl rfl rfl ?_)
    refine X_bt rfl rfl rfl (Int32.le_refl _) ?_
    exact X_r rfl rfl rfl rfl k
  | succ d ih =>
    intro i hi
    repeat (refine X_n rfl rfl rfl ?_)
    refine X_bf rfl rfl rfl (show ¬ nI 9 ≤ nI i from nI_ge (by omega) (by omega)) ?_
    repeat (refine X_n rfl rfl rfl ?_)
    refine X_sb rfl rfl (by decide) rfl hF (show i < 9 by omega) ?_
    rw [st_stA, show upd (flt (C 21) 0 i) i (Int32.ofInt 0) = flt (C 21) 0 (i + 1) from flt_s _ _ _]
    refine X_n rfl rfl rfl ?_
    refine X_n rfl rfl rfl ?_
    rw [nI_1']
    exact ih (i + 1) (by omega)
theorem Y_forget (hF : okF F) : Yd y_Numbers_forget [.ref 10] (hp F C J G) (.inl none) (hp F (fgt C) J G) := by
  refine Yd_of (fun Q k => ?_)
  unfold Y
  refine X_n rfl rfl rfl ?_
  refine X_n rfl rfl rfl ?_
  have h := Y_forget_loop (Q := Q) hF k 9 0 (by omega)
  rw [flt_0, stA_self] at h
  exact h
theorem Y_wall {x z : Int32} {b : Bool} (hF : okF F) (hG : okX G t) (hx : ∀ c, c < F.1 * F.2.1 → C 5 c = -1 ∨ ∃ e, e < 8 ∧ C 5 c = nI e)
    (k7 : (x < 0 ∨ nI F.1 ≤ x ∨ z < 0 ∨ nI F.2.1 ≤ z) → Q (.inr (194 + G.2.1)) (hp F C J (gx G 7)))
    (k8 : ∀ i j, i < F.1 → j < F.2.1 → x = nI i → z = nI j → ¬ C 28 (j * F.1 + i) = -1 → Q (.inr (194 + G.2.1)) (hp F C J (gx G 8)))
    (kr : ∀ i j, i < F.1 → j < F.2.1 → x = nI i → z = nI j → C 28 (j * F.1 + i) = -1 → Q (.inl (some (.int (bI (decide (C 2 (j * F.1 + i) = 1))))))
      (hp F (st (if b then (if C 2 (j * F.1 + i) = 1 then mkWall C (j * F.1 + i) else fgt (mkWall C (j * F.1 + i))) else (if C 2 (j * F.1 + i) = 1 then fgt (st C 2 (j * F.1 + i) 0) else C)) 0 5 0) J G)) :
    Y y_Esc_wall [.ref 0, .int x, .int z, .int (bI b)] (hp F C J G) Q := by
  unfold Y
  have hn := hF.n
  repeat (refine X_n rfl rfl rfl ?_)
  refine X_k rfl rfl rfl rfl (Y_cellOfK hF (fun h => ?_) (fun i j hi hj e1 e2 => ?_))
  · repeat (refine X_n rfl rfl rfl ?_)
    refine X_bf rfl rfl rfl (fun h => h rfl) ?_
    exact X_w (x := 0) hG rfl rfl rfl rfl rfl (k7 h)
  · have hc := ji_lt hi hj
    have kr := kr i j hi hj e1 e2
    have k8 := k8 i j hi hj e1 e2
    generalize j * F.1 + i = c at *
    repeat (refine X_n rfl rfl rfl ?_)
    refine X_bt rfl rfl rfl (nI_nm1 (by omega)) ?_
    repeat (refine X_n rfl rfl rfl ?_)
    refine X_la rfl rfl rfl hF hc ?_
    repeat (refine X_n rfl rfl rfl ?_)
    refine X_b rfl rfl rfl (fun q => ?_) (fun q => ?_)
    · have kr := kr q
      repeat (refine X_n rfl rfl rfl ?_)
      refine X_cd rfl rfl rfl rfl (Y_isWall hF hc) ?_
      repeat (refine X_n rfl rfl rfl ?_)
      cases b with
      | true =>
        rw [if_pos rfl] at kr
        refine X_bf rfl rfl rfl bI_t0 ?_
        repeat (refine X_n rfl rfl rfl ?_)
        refine X_cd rfl rfl rfl rfl (Y_makeWall hF hc (hx c hc)) ?_
        repeat (refine X_n rfl rfl rfl ?_)
        by_cases hw : C 2 c = 1
        · rw [if_pos hw] at kr
          refine X_bt rfl rfl rfl (show bI (decide (C 2 c = 1)) = bI true by rw [decide_eq_true hw]) ?_
          repeat (refine X_n rfl rfl rfl ?_)
          refine X_s rfl rfl ?_
          refine X_h (hp_f0_5 rfl) ?_
          repeat (refine X_n rfl rfl rfl ?_)
          refine X_r rfl rfl rfl ?_ kr
          rw [decide_eq_true hw]; rfl
        · rw [if_neg hw] at kr
          refine X_bf rfl rfl rfl (show ¬ bI (decide (C 2 c = 1)) = bI true by rw [decide_eq_false hw]; decide) ?_
          repeat (refine X_n rfl rfl rfl ?_)
          refine X_cd rfl rfl rfl rfl (Y_forget hF) ?_
          repeat (refine X_n rfl rfl rfl ?_)
          refine X_s rfl rfl ?_
          refine X_h (hp_f0_5 rfl) ?_
          repeat (refine X_n rfl rfl rfl ?_)
          refine X_r rfl rfl rfl ?_ kr
          rw [decide_eq_false hw]; rfl
      | false =>
        rw [if_neg (by decide)] at kr
        refine X_bt rfl rfl rfl bI_f0 ?_
        repeat (refine X_n rfl rfl rfl ?_)
        by_cases hw : C 2 c = 1
        · rw [if_pos hw] at kr
          refine X_bf rfl rfl rfl (show ¬ bI (decide (C 2 c = 1)) = 0 by rw [decide_eq_true hw]; decide) ?_
          repeat (refine X_n rfl rfl rfl ?_)
          refine X_cd rfl rfl rfl rfl (Y_makeFree hF hc) ?_
          repeat (refine X_n rfl rfl rfl ?_)
          refine X_bf rfl rfl rfl (show ¬ bI (decide (C 2 c = 1)) = bI false by rw [decide_eq_true hw]; decide) ?_
          repeat (refine X_n rfl rfl rfl ?_)
          refine X_cd rfl rfl rfl rfl (Y_forget hF) ?_
          repeat (refine X_n rfl rfl rfl ?_)
          refine X_s rfl rfl ?_
          refine X_h (hp_f0_5 rfl) ?_
          repeat (refine X_n rfl rfl rfl ?_)
          refine X_r rfl rfl rfl ?_ kr
          rw [decide_eq_true hw]; rfl
        · rw [if_neg hw] at kr
          refine X_bt rfl rfl rfl (show bI (decide (C 2 c = 1)) = 0 by rw [decide_eq_false hw]; decide) ?_
          repeat (refine X_n rfl rfl rfl ?_)
          refine X_bt rfl rfl rfl (show bI (decide (C 2 c = 1)) = bI false by rw [decide_eq_false hw]) ?_
          repeat (refine X_n rfl rfl rfl ?_)
          refine X_s rfl rfl ?_
          refine X_h (hp_f0_5 rfl) ?_
          repeat (refine X_n rfl rfl rfl ?_)
          refine X_r rfl rfl rfl ?_ kr
          rw [decide_eq_false hw]; rfl
    · exact X_w (x := 0) hG rfl rfl rfl rfl rfl (k8 q)
theorem Y_exit {x z r : Int32} {n8 : Nat} (hF : okF F) (hG : okX G t) (hX8 : n8 ≤ 8) (hX : C 1 11 = nI n8)
    (k7 : (x < 0 ∨ nI F.1 ≤ x ∨ z < 0 ∨ nI F.2.1 ≤ z) ∨ ¬ (1 ≤ r ∧ r ≤ 5) → Q (.inr (194 + G.2.1)) (hp F C J (gx G 7)))
    (k8 : ∀ i j, i < F.1 → j < F.2.1 → x = nI i → z = nI j → (1 ≤ r ∧ r ≤ 5) → (C 2 (j * F.1 + i) = 1 ∨ ¬ C 28 (j * F.1 + i) = -1 ∨ (¬ C 2 (j * F.1 + i) = 2 ∧ n8 = 8)) → Q (.inr (194 + G.2.1)) (hp F C J (gx G 8)))
    (ke : ∀ i j, i < F.1 → j < F.2.1 → x = nI i → z = nI j → (1 ≤ r ∧ r ≤ 5) → C 2 (j * F.1 + i) = 2 → C 28 (j * F.1 + i) = -1 → Q (.inl (some (.int (C 5 (j * F.1 + i))))) (hp F (st (st C 3 (j * F.1 + i) r) 0 5 0) J G))
    (kr : ∀ i j, i < F.1 → j < F.2.1 → x = nI i → z = nI j → (1 ≤ r ∧ r ≤ 5) → ¬ C 2 (j * F.1 + i) = 1 → ¬ C 2 (j * F.1 + i) = 2 → C 28 (j * F.1 + i) = -1 → n8 < 8 → Q (.inl (some (.int (nI n8)))) (hp F (st (st (fgt (st (st (st (st C 2 (j * F.1 + i) 2) 5 (j * F.1 + i) (nI n8)) 6 n8 (nI (j * F.1 + i))) 1 11 (nI (n8 + 1)))) 3 (j * F.1 + i) r) 0 5 0) J G)) :
    Y y_Esc_exit [.ref 0, .int x, .int z, .int r] (hp F C J G) Q := by
  unfold Y
  have hn := hF.n
  repeat (refine X_n rfl rfl rfl ?_)
  refine X_k rfl rfl rfl rfl (Y_cellOfK hF (fun h => ?_) (fun i j hi hj e1 e2 => ?_))
  · repeat (refine X_n rfl rfl rfl ?_)
    refine X_bt rfl rfl rfl rfl ?_
    exact X_w (x := 0) hG rfl rfl rfl rfl rfl (k7 (Or.inl h))
  · have hc := ji_lt hi hj
    have kr := kr i j hi hj e1 e2
    have ke := ke i j hi hj e1 e2
    have k8 := k8 i j hi hj e1 e2
    generalize j * F.1 + i = c at *
    repeat (refine X_n rfl rfl rfl ?_)
    refine X_bf rfl rfl rfl (nI_nm1 (by omega)) ?_
    repeat (refine X_n rfl rfl rfl ?_)
    refine X_cd rfl rfl rfl rfl Y_isWithin ?_
    refine X_nz rfl (fun qr => ?_) (fun qr => ?_)
    · have kr := kr qr
      have ke := ke qr
      have k8 := k8 qr
      repeat (refine X_n rfl rfl rfl ?_)
      refine X_cd rfl rfl rfl rfl (Y_isWall hF hc) ?_
      refine X_nz rfl (fun qw => ?_) (fun qw => ?_)
      · exact X_w (x := 0) hG rfl rfl rfl rfl rfl (k8 (Or.inl qw))
      · repeat (refine X_n rfl rfl rfl ?_)
        refine X_la rfl rfl rfl hF hc ?_
        repeat (refine X_n rfl rfl rfl ?_)
        refine X_b rfl rfl rfl (fun qp => ?_) (fun qp => ?_)
        · repeat (refine X_n rfl rfl rfl ?_)
          refine X_cd rfl rfl rfl rfl (Y_isExit hF hc) ?_
          refine X_nz rfl (fun qe => ?_) (fun qe => ?_)
          · repeat (refine X_n rfl rfl rfl ?_)
            refine X_sa rfl rfl rfl hF hc ?_
            repeat (refine X_n rfl rfl rfl ?_)
            refine X_s rfl rfl ?_
            refine X_h (hp_f0_5 rfl) ?_
            repeat (refine X_n rfl rfl rfl ?_)
            refine X_la rfl rfl rfl hF hc ?_
            have e5 : st (st C 3 c r) 0 5 0 5 c = C 5 c := rfl
            have kk := ke qe qp
            rw [← e5] at kk
            exact X_r rfl rfl rfl rfl kk
          · repeat (refine X_n rfl rfl rfl ?_)
            by_cases h8 : n8 < 8
            · refine X_bt rfl rfl rfl (show C 1 11 < 8 by rw [hX]; exact nI_lt (b := 8) h8 (by omega)) ?_
              repeat (refine X_n rfl rfl rfl ?_)
              refine X_cd rfl rfl rfl rfl (Y_makeExit hF hc h8 hX) ?_
              repeat (refine X_n rfl rfl rfl ?_)
              refine X_cd rfl rfl rfl rfl (Y_forget hF) ?_
              repeat (refine X_n rfl rfl rfl ?_)
              refine X_sa rfl rfl rfl hF hc ?_
              repeat (refine X_n rfl rfl rfl ?_)
              refine X_s rfl rfl ?_
              refine X_h (hp_f0_5 rfl) ?_
              repeat (refine X_n rfl rfl rfl ?_)
              refine X_la rfl rfl rfl hF hc ?_
              have e5 : st (st (fgt (st (st (st (st C 2 c 2) 5 c (nI n8)) 6 n8 (nI c)) 1 11 (nI (n8 + 1)))) 3 c r) 0 5 0 5 c = nI n8 := by
                rw [st_k (by omega), st_k (by omega)]
                show (st (st (st (st C 2 c 2) 5 c (nI n8)) 6 n8 (nI c)) 1 11 (nI (n8 + 1))) 5 c = _
                rw [st_k (by omega), st_k (by omega), st_s]
              exact X_r (v := some (.int (nI n8))) rfl rfl rfl (congrArg (fun v => some (some (Value.int v))) e5) (kr qw qe qp h8)
            · refine X_bf rfl rfl rfl (show ¬ C 1 11 < 8 by rw [hX, show n8 = 8 by omega]; decide) ?_
              exact X_w (x := 0) hG rfl rfl rfl rfl rfl (k8 (Or.inr (Or.inr ⟨qe, by omega⟩)))
        · exact X_w (x := 0) hG rfl rfl rfl rfl rfl (k8 (Or.inr (Or.inl qp)))
    · exact X_w (x := 0) hG rfl rfl rfl rfl rfl (k7 (Or.inr qr))
theorem Y_door {x z r : Int32} (hF : okF F) (hG : okX G t)
    (k7 : (x < 0 ∨ nI F.1 ≤ x ∨ z < 0 ∨ nI F.2.1 ≤ z) ∨ ¬ (1 ≤ r ∧ r ≤ 5) → Q (.inr (194 + G.2.1)) (hp F C J (gx G 7)))
    (k8 : ∀ i j, i < F.1 → j < F.2.1 → x = nI i → z = nI j → (1 ≤ r ∧ r ≤ 5) → (C 2 (j * F.1 + i) = 1 ∨ C 2 (j * F.1 + i) = 2) → Q (.inr (194 + G.2.1)) (hp F C J (gx G 8)))
    (kr : ∀ i j, i < F.1 → j < F.2.1 → x = nI i → z = nI j → (1 ≤ r ∧ r ≤ 5) → ¬ C 2 (j * F.1 + i) = 1 → ¬ C 2 (j * F.1 + i) = 2 → Q (.inl none) (hp F (st (st (st C 2 (j * F.1 + i) 3) 3 (j * F.1 + i) r) 0 5 0) J G)) :
    Y y_Esc_door [.ref 0, .int x, .int z, .int r] (hp F C J G) Q := by
  unfold Y
  have hn := hF.n
  repeat (refine X_n rfl rfl rfl ?_)
  refine X_k rfl rfl rfl rfl (Y_cellOfK hF (fun h => ?_) (fun i j hi hj e1 e2 => ?_))
  · repeat (refine X_n rfl rfl rfl ?_)
    refine X_bt rfl rfl rfl rfl ?_
    exact X_w (x := 0) hG rfl rfl rfl rfl rfl (k7 (Or.inl h))
  · have hc := ji_lt hi hj
    have kr := kr i j hi hj e1 e2
    have k8 := k8 i j hi hj e1 e2
    generalize j * F.1 + i = c at *
    repeat (refine X_n rfl rfl rfl ?_)
    refine X_bf rfl rfl rfl (nI_nm1 (by omega)) ?_
    repeat (refine X_n rfl rfl rfl ?_)
    refine X_cd rfl rfl rfl rfl Y_isWithin ?_
    refine X_nz rfl (fun qr => ?_) (fun qr => ?_)
    · have kr := kr qr
      have k8 := k8 qr
      repeat (refine X_n rfl rfl rfl ?_)
      refine X_cd rfl rfl rfl rfl (Y_isWall hF hc) ?_
      refine X_nz rfl (fun qw => ?_) (fun qw => ?_)
      · exact X_w (x := 0) hG rfl rfl rfl rfl rfl (k8 (Or.inl qw))
      · repeat (refine X_n rfl rfl rfl ?_)
        refine X_cd rfl rfl rfl rfl (Y_isExit hF hc) ?_
        refine X_z rfl (fun qe => ?_) (fun qe => ?_)
        · repeat (refine X_n rfl rfl rfl ?_)
          refine X_sa rfl rfl rfl hF hc ?_
          repeat (refine X_n rfl rfl rfl ?_)
          refine X_sa rfl rfl rfl hF hc ?_
          repeat (refine X_n rfl rfl rfl ?_)
          refine X_s rfl rfl ?_
          refine X_h (hp_f0_5 rfl) ?_
          exact X_r rfl rfl rfl rfl (kr qw qe)
        · exact X_w (x := 0) hG rfl rfl rfl rfl rfl (k8 (Or.inr qe))
    · exact X_w (x := 0) hG rfl rfl rfl rfl rfl (k7 (Or.inr qr))
theorem Y_person {x z a d : Int32} {p : Nat} (hF : okF F) (hG : okX G t) (hp60 : p ≤ 60) (hP : C 23 5 = nI p)
    (k7 : (x < 0 ∨ nI F.1 ≤ x ∨ z < 0 ∨ nI F.2.1 ≤ z) ∨ ¬ (1 ≤ a ∧ a ≤ 5) ∨ ¬ (0 ≤ d ∧ d ≤ 600) → Q (.inr (194 + G.2.1)) (hp F C J (gx G 7)))
    (k8 : ∀ i j, i < F.1 → j < F.2.1 → x = nI i → z = nI j → (1 ≤ a ∧ a ≤ 5) → (0 ≤ d ∧ d ≤ 600) → (C 2 (j * F.1 + i) = 1 ∨ C 2 (j * F.1 + i) = 2 ∨ ¬ C 28 (j * F.1 + i) = -1 ∨ p = 60) → Q (.inr (194 + G.2.1)) (hp F C J (gx G 8)))
    (kr : ∀ i j, i < F.1 → j < F.2.1 → x = nI i → z = nI j → (1 ≤ a ∧ a ≤ 5) → (0 ≤ d ∧ d ≤ 600) → ¬ C 2 (j * F.1 + i) = 1 → ¬ C 2 (j * F.1 + i) = 2 → C 28 (j * F.1 + i) = -1 → p < 60 → Q (.inl (some (.int (nI p)))) (hp F (addP (st C 0 5 0) p (j * F.1 + i) a d) J G)) :
    Y y_Esc_person [.ref 0, .int x, .int z, .int a, .int d] (hp F C J G) Q := by
  unfold Y
  have hn := hF.n
  repeat (refine X_n rfl rfl rfl ?_)
  refine X_k rfl rfl rfl rfl (Y_cellOfK hF (fun h => ?_) (fun i j hi hj e1 e2 => ?_))
  · repeat (refine X_n rfl rfl rfl ?_)
    refine X_bt rfl rfl rfl rfl ?_
    exact X_w (x := 0) hG rfl rfl rfl rfl rfl (k7 (Or.inl h))
  · have hc := ji_lt hi hj
    have kr := kr i j hi hj e1 e2
    have k8 := k8 i j hi hj e1 e2
    generalize j * F.1 + i = c at *
    repeat (refine X_n rfl rfl rfl ?_)
    refine X_bf rfl rfl rfl (nI_nm1 (by omega)) ?_
    repeat (refine X_n rfl rfl rfl ?_)
    refine X_cd rfl rfl rfl rfl Y_isWithin ?_
    refine X_z rfl (fun qa => ?_) (fun qa => ?_)
    · exact X_w (x := 0) hG rfl rfl rfl rfl rfl (k7 (Or.inr (Or.inl qa)))
    repeat (refine X_n rfl rfl rfl ?_)
    refine X_cd rfl rfl rfl rfl Y_isWithin ?_
    refine X_nz rfl (fun qd => ?_) (fun qd => ?_)
    · have kr := kr qa qd
      have k8 := k8 qa qd
      repeat (refine X_n rfl rfl rfl ?_)
      refine X_cd rfl rfl rfl rfl (Y_isWall hF hc) ?_
      refine X_nz rfl (fun qw => ?_) (fun qw => ?_)
      · exact X_w (x := 0) hG rfl rfl rfl rfl rfl (k8 (Or.inl qw))
      · repeat (refine X_n rfl rfl rfl ?_)
        refine X_cd rfl rfl rfl rfl (Y_isExit hF hc) ?_
        refine X_z rfl (fun qe => ?_) (fun qe => ?_)
        · repeat (refine X_n rfl rfl rfl ?_)
          refine X_la rfl rfl rfl hF hc ?_
          repeat (refine X_n rfl rfl rfl ?_)
          refine X_b rfl rfl rfl (fun qp => ?_) (fun qp => ?_)
          · exact X_w (x := 0) hG rfl rfl rfl rfl rfl (k8 (Or.inr (Or.inr (Or.inl qp))))
          · have qp := Decidable.not_not.mp qp
            repeat (refine X_n rfl rfl rfl ?_)
            by_cases h6 : p < 60
            · refine X_bt rfl rfl rfl (show C 23 5 < 60 by rw [hP]; exact nI_lt (b := 60) h6 (by omega)) ?_
              repeat (refine X_n rfl rfl rfl ?_)
              refine X_s rfl rfl ?_
              refine X_h (hp_f0_5 rfl) ?_
              repeat (refine X_n rfl rfl rfl ?_)
              refine X_cd rfl rfl rfl rfl (Y_add hF hc h6 (show st C 0 5 0 23 5 = nI p from hP)) ?_
              exact X_r rfl rfl rfl rfl (kr qw qe qp h6)
            · refine X_bf rfl rfl rfl (show ¬ C 23 5 < 60 by rw [hP, show p = 60 by omega]; decide) ?_
              exact X_w (x := 0) hG rfl rfl rfl rfl rfl (k8 (Or.inr (Or.inr (Or.inr (by omega)))))
        · exact X_w (x := 0) hG rfl rfl rfl rfl rfl (k8 (Or.inr (Or.inl qe)))
    · exact X_w (x := 0) hG rfl rfl rfl rfl rfl (k7 (Or.inr (Or.inr qd)))
theorem Y_habit {x e : Int32} {p : Nat} (hF : okF F) (hG : okX G t) (hp60 : p ≤ 60) (hP : C 23 5 = nI p)
    (k7 : ¬ (0 ≤ x ∧ x < nI p) ∨ ¬ (-1 ≤ e ∧ e < C 1 11) → Q (.inr (194 + G.2.1)) (hp F C J (gx G 7)))
    (kr : ∀ i, i < p → x = nI i → (-1 ≤ e ∧ e < C 1 11) → Q (.inl (some (.int (C 27 i)))) (hp F (st (st C 27 i e) 0 5 0) J G)) :
    Y y_Esc_habit [.ref 0, .int x, .int e] (hp F C J G) Q := by
  unfold Y
  repeat (refine X_n rfl rfl rfl ?_)
  refine X_cd rfl rfl rfl rfl Y_has ?_
  refine X_z rfl (fun q => ?_) (fun q => ?_)
  · exact X_w (x := 0) hG rfl rfl rfl rfl rfl (k7 (Or.inl (by rw [hP] at q; exact q)))
  · rw [hP] at q
    repeat (refine X_n rfl rfl rfl ?_)
    refine X_cd rfl rfl rfl rfl Y_isExitNumberOrNone ?_
    refine X_nz rfl (fun q2 => ?_) (fun q2 => ?_)
    · obtain ⟨i, hi, rfl⟩ := nI_of (Int32.not_lt.mpr q.1)
      have hip : i < p := (nI_ltI (by omega) (by omega)).mp q.2
      repeat (refine X_n rfl rfl rfl ?_)
      refine X_la rfl rfl rfl hF (show i < 60 by omega) ?_
      repeat (refine X_n rfl rfl rfl ?_)
      refine X_sa rfl rfl rfl hF (show i < 60 by omega) ?_
      repeat (refine X_n rfl rfl rfl ?_)
      refine X_s rfl rfl ?_
      refine X_h (hp_f0_5 rfl) ?_
      repeat (refine X_n rfl rfl rfl ?_)
      exact X_r rfl rfl rfl rfl (kr i hip rfl q2)
    · exact X_w (x := 0) hG rfl rfl rfl rfl rfl (k7 (Or.inr q2))
end
end
section
/-! the reference's calls that change the storey and its people -/
section
variable {F : Fx} {C : Ct} {J : Nat → Int64} {G : Ex} {Q : mE → mH → Prop}
theorem inC_yes (hF : okF F) {i j : Nat} (hi : i < F.1) (hj : j < F.2.1) : (0 ≤ nI i ∧ nI i < nI F.1) ∧ (0 ≤ nI j ∧ nI j < nI F.2.1) := by
  obtain ⟨⟨f1, f2⟩, ⟨f3, f4⟩, -⟩ := hF
  exact ⟨⟨nI_pos' (by omega), nI_lt hi (by omega)⟩, nI_pos' (by omega), nI_lt hj (by omega)⟩
theorem inC_no {x z : Int32} (h : x < 0 ∨ nI F.1 ≤ x ∨ z < 0 ∨ nI F.2.1 ≤ z) : ¬ ((0 ≤ x ∧ x < nI F.1) ∧ (0 ≤ z ∧ z < nI F.2.1)) := by
  rintro ⟨⟨a1, a2⟩, a3, a4⟩
  rcases h with h | h | h | h
  · exact Int32.not_lt.mpr a1 h
  · exact Int32.not_lt.mpr h a2
  · exact Int32.not_lt.mpr a3 h
  · exact Int32.not_lt.mpr h a4
theorem m576 (hF : okF F) {i j : Nat} (hi : i < F.1) (hj : j < F.2.1) : 24 * j + i < 576 := by
  obtain ⟨⟨f1, f2⟩, ⟨f3, f4⟩, -⟩ := hF
  omega
theorem Y_hasPerson_loop {x : Int32} {P : Nat} (hF : okF F) (hP60 : P ≤ 60) (hP : C 169 9 = nI P) (ky : (∃ p, p < P ∧ C 175 p = x) → Q (.inl (some (.int 1))) (hp F C J G)) (kn : (∀ p, p < P → ¬ C 175 p = x) → Q (.inl (some (.int 0))) (hp F C J G)) :
    ∀ (d i : Nat), i + d = P → ∀ v : Int32, ((v = 1 ∧ ∃ p, p < i ∧ C 175 p = x) ∨ (v = 0 ∧ ∀ p, p < i → ¬ C 175 p = x)) → X y_Model_hasPerson 4 [some (.ref 169), some (.int x), some (.int v), some (.int (nI i))] [] (hp F C J G) Q := by
  intro d
  induction d with
  | zero =>
    intro i hi v hv
    have : i = P := by omega
    subst this
    repeat (refine X_n rfl rfl rfl ?_)
    refine X_bt rfl rfl rfl (show C 169 9 ≤ nI i by rw [hP]; exact Int32.le_refl _) ?_
    repeat (refine X_n rfl rfl rfl ?_)
    rcases hv with ⟨rfl, h⟩ | ⟨rfl, h⟩
    · exact X_r rfl rfl rfl rfl (ky h)
    · exact X_r rfl rfl rfl rfl (kn h)
  | succ d ih =>
    intro i hi v hv
    repeat (refine X_n rfl rfl rfl ?_)
    refine X_bf rfl rfl rfl (show ¬ C 169 9 ≤ nI i by rw [hP]; exact nI_ge (by omega) (by omega)) ?_
    repeat (refine X_n rfl rfl rfl ?_)
    have yes : (∃ p, p < i + 1 ∧ C 175 p = x) → X y_Model_hasPerson 26 [some (.ref 169), some (.int x), some (.int v), some (.int (nI i))] [] (hp F C J G) Q := by
      intro h
      iterate 5 (refine X_n rfl rfl rfl ?_)
      rw [nI_1']
      exact ih (i + 1) (by omega) 1 (Or.inl ⟨rfl, h⟩)
    rcases hv with ⟨rfl, p, hp1, hp2⟩ | ⟨rfl, h⟩
    · refine X_bt rfl rfl rfl (show ¬ (1 : Int32) = 0 by decide) ?_
      exact yes ⟨p, by omega, hp2⟩
    · refine X_bf rfl rfl rfl (fun h => h rfl) ?_
      repeat (refine X_n rfl rfl rfl ?_)
      refine X_la rfl rfl rfl hF (show i < 60 by omega) ?_
      repeat (refine X_n rfl rfl rfl ?_)
      refine X_b rfl rfl rfl (fun q => ?_) (fun q => ?_)
      · iterate 4 (refine X_n rfl rfl rfl ?_)
        rw [nI_1']
        refine ih (i + 1) (by omega) 0 (Or.inr ⟨rfl, fun p hp1 => ?_⟩)
        by_cases e : p = i
        · subst e; exact q
        · exact h p (by omega)
      · exact yes ⟨i, by omega, Decidable.not_not.mp q⟩
theorem Y_hasPerson {x : Int32} {P : Nat} (hF : okF F) (hP60 : P ≤ 60) (hP : C 169 9 = nI P) (ky : (∃ p, p < P ∧ C 175 p = x) → Q (.inl (some (.int 1))) (hp F C J G)) (kn : (∀ p, p < P → ¬ C 175 p = x) → Q (.inl (some (.int 0))) (hp F C J G)) : Y y_Model_hasPerson [.ref 169, .int x] (hp F C J G) Q := by
  unfold Y
  iterate 4 (refine X_n rfl rfl rfl ?_)
  exact Y_hasPerson_loop hF hP60 hP ky kn P 0 (by omega) 0 (Or.inr ⟨rfl, fun p hp1 => by omega⟩)
/-- changed -/
def mch (C : Ct) : Ct := st (st C 169 14 0) 169 17 0
theorem Y_msmoke_no {x z s : Int32} (h : (x < 0 ∨ nI F.1 ≤ x ∨ z < 0 ∨ nI F.2.1 ≤ z) ∨ ¬ (-1 ≤ s ∧ s ≤ 3600)) : Yd y_Model_smoke [.ref 169, .int x, .int z, .int s] (hp F C J G) (.inl (some (.int 0))) (hp F (st C 169 0 1) J G) := by
  refine Yd_of (fun Q k => ?_)
  unfold Y
  repeat (refine X_n rfl rfl rfl ?_)
  refine X_cd rfl rfl rfl rfl Y_isCell ?_
  refine X_z rfl (fun q => ?_) (fun q => ?_)
  · repeat (refine X_n rfl rfl rfl ?_)
    refine X_cd rfl rfl rfl rfl Y_refuses ?_
    refine X_z rfl (fun q => absurd (by decide) q) (fun _ => ?_)
    repeat (refine X_n rfl rfl rfl ?_)
    exact X_r rfl rfl rfl rfl k
  · have h : ¬ (-1 ≤ s ∧ s ≤ 3600) := h.resolve_left (fun h => inC_no h q)
    repeat (refine X_n rfl rfl rfl ?_)
    refine X_b rfl rfl rfl (fun q1 => ?_) (fun q1 => ?_)
    · repeat (refine X_n rfl rfl rfl ?_)
      refine X_cd rfl rfl rfl rfl Y_refuses ?_
      refine X_z rfl (fun q => absurd (by decide) q) (fun _ => ?_)
      repeat (refine X_n rfl rfl rfl ?_)
      exact X_r rfl rfl rfl rfl k
    · repeat (refine X_n rfl rfl rfl ?_)
      refine X_b rfl rfl rfl (fun q2 => ?_) (fun q2 => ?_)
      · exact absurd ⟨Int32.not_lt.mp q1, q2⟩ h
      · repeat (refine X_n rfl rfl rfl ?_)
        refine X_cd rfl rfl rfl rfl Y_refuses ?_
        refine X_z rfl (fun q => absurd (by decide) q) (fun _ => ?_)
        repeat (refine X_n rfl rfl rfl ?_)
        exact X_r rfl rfl rfl rfl k
theorem Y_msmoke {i j : Nat} {s : Int32} (hF : okF F) (hi : i < F.1) (hj : j < F.2.1) (hs : -1 ≤ s ∧ s ≤ 3600) : Yd y_Model_smoke [.ref 169, .int (nI i), .int (nI j), .int s] (hp F C J G) (.inl (some (.int (C 173 (24 * j + i))))) (hp F (mch (st (st C 169 0 0) 173 (24 * j + i) s)) J G) := by
  refine Yd_of (fun Q k => ?_)
  unfold Y
  have hm := m576 hF hi hj
  repeat (refine X_n rfl rfl rfl ?_)
  refine X_cd rfl rfl rfl rfl Y_isCell ?_
  refine X_z rfl (fun q => ?_) (fun q => ?_)
  · exact absurd (inC_yes hF hi hj) q
  repeat (refine X_n rfl rfl rfl ?_)
  refine X_bf rfl rfl rfl (Int32.not_lt.mpr hs.1) ?_
  repeat (refine X_n rfl rfl rfl ?_)
  refine X_bt rfl rfl rfl hs.2 ?_
  repeat (refine X_n rfl rfl rfl ?_)
  refine X_cd rfl rfl rfl rfl Y_refuses ?_
  refine X_z rfl (fun _ => ?_) (fun q => absurd q (by decide))
  repeat (refine X_n rfl rfl rfl ?_)
  refine X_cd rfl rfl rfl rfl (Y_mcell _) ?_
  refine X_la rfl rfl rfl hF hm ?_
  repeat (refine X_n rfl rfl rfl ?_)
  refine X_cd rfl rfl rfl rfl (Y_mcell _) ?_
  repeat (refine X_n rfl rfl rfl ?_)
  refine X_sa rfl rfl rfl hF hm ?_
  repeat (refine X_n rfl rfl rfl ?_)
  refine X_cd rfl rfl rfl rfl Y_changed ?_
  repeat (refine X_n rfl rfl rfl ?_)
  exact X_r rfl rfl rfl rfl k
theorem Y_mwall_no {x z : Int32} {b : Bool} (h : x < 0 ∨ nI F.1 ≤ x ∨ z < 0 ∨ nI F.2.1 ≤ z) : Yd y_Model_wall [.ref 169, .int x, .int z, .int (bI b)] (hp F C J G) (.inl (some (.int 0))) (hp F (st C 169 0 1) J G) := by
  refine Yd_of (fun Q k => ?_)
  unfold Y
  repeat (refine X_n rfl rfl rfl ?_)
  refine X_cd rfl rfl rfl rfl Y_isCell ?_
  refine X_nz rfl (fun q => ?_) (fun q => ?_)
  · exact absurd q (inC_no h)
  · repeat (refine X_n rfl rfl rfl ?_)
    refine X_cd rfl rfl rfl rfl Y_refuses ?_
    refine X_z rfl (fun q => absurd (by decide) q) (fun _ => ?_)
    repeat (refine X_n rfl rfl rfl ?_)
    exact X_r rfl rfl rfl rfl k
theorem Y_mwall_no2 {i j P : Nat} {b : Bool} (hF : okF F) (hi : i < F.1) (hj : j < F.2.1) (hP60 : P ≤ 60) (hP : C 169 9 = nI P) (h : ∃ p, p < P ∧ C 175 p = nI (24 * j + i)) : Yd y_Model_wall [.ref 169, .int (nI i), .int (nI j), .int (bI b)] (hp F C J G) (.inl (some (.int 0))) (hp F (st C 169 0 2) J G) := by
  refine Yd_of (fun Q k => ?_)
  unfold Y
  repeat (refine X_n rfl rfl rfl ?_)
  refine X_cd rfl rfl rfl rfl Y_isCell ?_
  refine X_nz rfl (fun q => ?_) (fun q => ?_)
  · repeat (refine X_n rfl rfl rfl ?_)
    refine X_cd rfl rfl rfl rfl (Y_mcell _) ?_
    refine X_k rfl rfl rfl rfl (Y_hasPerson hF hP60 hP (fun _ => ?_) (fun hn => ?_))
    · refine X_bf rfl rfl rfl (show ¬ (1 : Int32) = 0 by decide) ?_
      repeat (refine X_n rfl rfl rfl ?_)
      refine X_cd rfl rfl rfl rfl Y_refuses ?_
      refine X_z rfl (fun q => absurd (by decide) q) (fun _ => ?_)
      repeat (refine X_n rfl rfl rfl ?_)
      exact X_r rfl rfl rfl rfl k
    · obtain ⟨p, h1, h2⟩ := h
      exact absurd h2 (hn p h1)
  · exact absurd (inC_yes hF hi hj) q
def mwl (C : Ct) (c : Nat) (b : Bool) : Ct := mch (st (st (st (st C 169 0 0) 170 c (bI b)) 171 c (if b then -1 else C 171 c)) 172 c (if b then 0 else C 172 c))
theorem Y_mwall {i j P : Nat} {b : Bool} (hF : okF F) (hi : i < F.1) (hj : j < F.2.1) (hP60 : P ≤ 60) (hP : C 169 9 = nI P) (h : ∀ p, p < P → ¬ C 175 p = nI (24 * j + i)) (hw : C 170 (24 * j + i) = 0 ∨ C 170 (24 * j + i) = 1) : Yd y_Model_wall [.ref 169, .int (nI i), .int (nI j), .int (bI b)] (hp F C J G) (.inl (some (.int (C 170 (24 * j + i))))) (hp F (mwl C (24 * j + i) b) J G) := by
  refine Yd_of (fun Q k => ?_)
  unfold Y
  have hm := m576 hF hi hj
  have fit : m_fit .boolean (.int (C 170 (24 * j + i))) = true := by rcases hw with e | e <;> rw [e] <;> rfl
  repeat (refine X_n rfl rfl rfl ?_)
  refine X_cd rfl rfl rfl rfl Y_isCell ?_
  refine X_nz rfl (fun q => ?_) (fun q => ?_)
  · repeat (refine X_n rfl rfl rfl ?_)
    refine X_cd rfl rfl rfl rfl (Y_mcell _) ?_
    refine X_k rfl rfl rfl rfl (Y_hasPerson hF hP60 hP (fun hy => ?_) (fun _ => ?_))
    · obtain ⟨p, h1, h2⟩ := hy
      exact absurd h2 (h p h1)
    · refine X_bt rfl rfl rfl rfl ?_
      repeat (refine X_n rfl rfl rfl ?_)
      refine X_cd rfl rfl rfl rfl Y_refuses ?_
      refine X_z rfl (fun _ => ?_) (fun q => absurd q (by decide))
      repeat (refine X_n rfl rfl rfl ?_)
      refine X_cd rfl rfl rfl rfl (Y_mcell _) ?_
      repeat (refine X_n rfl rfl rfl ?_)
      refine X_lb rfl rfl rfl hF hm ?_
      repeat (refine X_n rfl rfl rfl ?_)
      refine X_sb rfl rfl (by cases b <;> decide) rfl hF hm ?_
      repeat (refine X_n rfl rfl rfl ?_)
      cases b with
      | true =>
        refine X_bf rfl rfl rfl bI_t0 ?_
        repeat (refine X_n rfl rfl rfl ?_)
        refine X_sa rfl rfl rfl hF hm ?_
        repeat (refine X_n rfl rfl rfl ?_)
        refine X_bf rfl rfl rfl bI_t0 ?_
        repeat (refine X_n rfl rfl rfl ?_)
        refine X_sa rfl rfl rfl hF hm ?_
        repeat (refine X_n rfl rfl rfl ?_)
        refine X_cd rfl rfl rfl rfl Y_changed ?_
        repeat (refine X_n rfl rfl rfl ?_)
        refine X_r (v := some (.int (C 170 (24 * j + i)))) rfl rfl rfl ?_ k
        show (match m_fit .boolean (.int (C 170 (24 * j + i))) with | true => some (some (Value.int (C 170 (24 * j + i)))) | _ => none) = _
        rw [fit]
      | false =>
        refine X_bt rfl rfl rfl bI_f0 ?_
        repeat (refine X_n rfl rfl rfl ?_)
        refine X_la rfl rfl rfl hF hm ?_
        refine X_sa rfl rfl rfl hF hm ?_
        repeat (refine X_n rfl rfl rfl ?_)
        refine X_bt rfl rfl rfl bI_f0 ?_
        repeat (refine X_n rfl rfl rfl ?_)
        refine X_la rfl rfl rfl hF hm ?_
        refine X_sa rfl rfl rfl hF hm ?_
        repeat (refine X_n rfl rfl rfl ?_)
        refine X_cd rfl rfl rfl rfl Y_changed ?_
        repeat (refine X_n rfl rfl rfl ?_)
        refine X_r (v := some (.int (C 170 (24 * j + i)))) rfl rfl rfl ?_ k
        show (match m_fit .boolean (.int (C 170 (24 * j + i))) with | true => some (some (Value.int (C 170 (24 * j + i)))) | _ => none) = _
        rw [fit]
  · exact absurd (inC_yes hF hi hj) q
theorem i32_pos {r : Int32} (h : 0 < r) : 1 ≤ r := by
  rw [Int32.lt_iff_toInt_lt] at h
  rw [Int32.le_iff_toInt_le]
  have e0 : (0 : Int32).toInt = 0 := by decide
  have e1 : (1 : Int32).toInt = 1 := by decide
  omega
theorem i32_le5 {r : Int32} (h : r < 6) : r ≤ 5 := by
  rw [Int32.lt_iff_toInt_lt] at h
  rw [Int32.le_iff_toInt_le]
  have e0 : (6 : Int32).toInt = 6 := by decide
  have e1 : (5 : Int32).toInt = 5 := by decide
  omega
theorem i32_neg {r : Int32} (h : -1 ≤ r) (h2 : r < 0) : r = -1 := by
  rw [Int32.le_iff_toInt_le] at h
  rw [Int32.lt_iff_toInt_lt] at h2
  have e0 : (-1 : Int32).toInt = -1 := by decide
  have e1 : (0 : Int32).toInt = 0 := by decide
  apply Int32.toInt_inj.mp
  omega
theorem r6 {r : Int32} (h : r ≤ 0 ∨ 6 ≤ r) : ¬ (1 ≤ r ∧ r ≤ 5) := by
  rintro ⟨a, b⟩
  rcases h with h | h
  · exact absurd (Int32.le_trans a h) (by decide)
  · exact absurd (Int32.le_trans h b) (by decide)
theorem r6' {r : Int32} (h : 1 ≤ r ∧ r ≤ 5) : 0 < r ∧ r < 6 := ⟨Int32.lt_of_lt_of_le (show (0 : Int32) < 1 by decide) h.1, Int32.lt_of_le_of_lt h.2 (show (5 : Int32) < 6 by decide)⟩
theorem Y_mdoor_no {x z r : Int32} (h : (x < 0 ∨ nI F.1 ≤ x ∨ z < 0 ∨ nI F.2.1 ≤ z) ∨ ¬ (1 ≤ r ∧ r ≤ 5)) : Yd y_Model_door [.ref 169, .int x, .int z, .int r] (hp F C J G) (.inl none) (hp F (st C 169 0 1) J G) := by
  refine Yd_of (fun Q k => ?_)
  unfold Y
  have tail : X y_Model_door 23 [some (.ref 169), some (.int x), some (.int z), some (.int r), none, none] [] (hp F C J G) Q := by
    repeat (refine X_n rfl rfl rfl ?_)
    refine X_bt rfl rfl rfl rfl ?_
    repeat (refine X_n rfl rfl rfl ?_)
    refine X_bf rfl rfl rfl (fun h => h rfl) ?_
    repeat (refine X_n rfl rfl rfl ?_)
    refine X_cd rfl rfl rfl rfl Y_refuses ?_
    refine X_nz rfl (fun _ => ?_) (fun q => absurd (by decide) q)
    exact X_r rfl rfl rfl rfl k
  repeat (refine X_n rfl rfl rfl ?_)
  refine X_cd rfl rfl rfl rfl Y_isCell ?_
  refine X_z rfl (fun q => ?_) (fun q => ?_)
  · exact tail
  · have h : ¬ (1 ≤ r ∧ r ≤ 5) := h.resolve_left (fun h => inC_no h q)
    repeat (refine X_n rfl rfl rfl ?_)
    refine X_b rfl rfl rfl (fun q1 => ?_) (fun q1 => ?_)
    · exact tail
    · repeat (refine X_n rfl rfl rfl ?_)
      refine X_b rfl rfl rfl (fun q2 => ?_) (fun q2 => ?_)
      · exact tail
      · exact absurd ⟨i32_pos (Int32.not_le.mp q1), i32_le5 (Int32.not_le.mp q2)⟩ h
theorem Y_mdoor_no2 {i j : Nat} {r : Int32} (hF : okF F) (hi : i < F.1) (hj : j < F.2.1) (hr : 1 ≤ r ∧ r ≤ 5) (h : C 170 (24 * j + i) = 1 ∨ (C 170 (24 * j + i) = 0 ∧ 0 ≤ C 171 (24 * j + i))) : Yd y_Model_door [.ref 169, .int (nI i), .int (nI j), .int r] (hp F C J G) (.inl none) (hp F (st C 169 0 2) J G) := by
  refine Yd_of (fun Q k => ?_)
  unfold Y
  have hm := m576 hF hi hj
  obtain ⟨r1, r2⟩ := r6' hr
  repeat (refine X_n rfl rfl rfl ?_)
  refine X_cd rfl rfl rfl rfl Y_isCell ?_
  refine X_z rfl (fun q => ?_) (fun q => ?_)
  · exact absurd (inC_yes hF hi hj) q
  repeat (refine X_n rfl rfl rfl ?_)
  refine X_bf rfl rfl rfl (Int32.not_le.mpr r1) ?_
  repeat (refine X_n rfl rfl rfl ?_)
  refine X_bf rfl rfl rfl (Int32.not_le.mpr r2) ?_
  repeat (refine X_n rfl rfl rfl ?_)
  refine X_bf rfl rfl rfl (show ¬ (1 : Int32) = 0 by decide) ?_
  repeat (refine X_n rfl rfl rfl ?_)
  refine X_cd rfl rfl rfl rfl (Y_mcell _) ?_
  repeat (refine X_n rfl rfl rfl ?_)
  refine X_bt rfl rfl rfl (show ¬ (1 : Int32) = 0 by decide) ?_
  repeat (refine X_n rfl rfl rfl ?_)
  refine X_lb rfl rfl rfl hF hm ?_
  rcases h with h | ⟨h0, h⟩
  · rw [h]
    refine X_bt rfl rfl rfl (show ¬ (1 : Int32) = 0 by decide) ?_
    repeat (refine X_n rfl rfl rfl ?_)
    refine X_cd rfl rfl rfl rfl Y_refuses ?_
    refine X_nz rfl (fun _ => ?_) (fun q => absurd (by decide) q)
    exact X_r rfl rfl rfl rfl k
  · rw [h0]
    refine X_bf rfl rfl rfl (fun h => h rfl) ?_
    repeat (refine X_n rfl rfl rfl ?_)
    refine X_la rfl rfl rfl hF hm ?_
    refine X_bf rfl rfl rfl (Int32.not_lt.mpr h) ?_
    repeat (refine X_n rfl rfl rfl ?_)
    refine X_cd rfl rfl rfl rfl Y_refuses ?_
    refine X_nz rfl (fun _ => ?_) (fun q => absurd (by decide) q)
    exact X_r rfl rfl rfl rfl k
theorem Y_mdoor {i j : Nat} {r : Int32} (hF : okF F) (hi : i < F.1) (hj : j < F.2.1) (hr : 1 ≤ r ∧ r ≤ 5) (h0 : C 170 (24 * j + i) = 0) (h : C 171 (24 * j + i) < 0) : Yd y_Model_door [.ref 169, .int (nI i), .int (nI j), .int r] (hp F C J G) (.inl none) (hp F (mch (st (st C 169 0 0) 172 (24 * j + i) r)) J G) := by
  refine Yd_of (fun Q k => ?_)
  unfold Y
  have hm := m576 hF hi hj
  obtain ⟨r1, r2⟩ := r6' hr
  repeat (refine X_n rfl rfl rfl ?_)
  refine X_cd rfl rfl rfl rfl Y_isCell ?_
  refine X_z rfl (fun q => ?_) (fun q => ?_)
  · exact absurd (inC_yes hF hi hj) q
  repeat (refine X_n rfl rfl rfl ?_)
  refine X_bf rfl rfl rfl (Int32.not_le.mpr r1) ?_
  repeat (refine X_n rfl rfl rfl ?_)
  refine X_bf rfl rfl rfl (Int32.not_le.mpr r2) ?_
  repeat (refine X_n rfl rfl rfl ?_)
  refine X_bf rfl rfl rfl (show ¬ (1 : Int32) = 0 by decide) ?_
  repeat (refine X_n rfl rfl rfl ?_)
  refine X_cd rfl rfl rfl rfl (Y_mcell _) ?_
  repeat (refine X_n rfl rfl rfl ?_)
  refine X_bt rfl rfl rfl (show ¬ (1 : Int32) = 0 by decide) ?_
  repeat (refine X_n rfl rfl rfl ?_)
  refine X_lb rfl rfl rfl hF hm ?_
  rw [h0]
  refine X_bf rfl rfl rfl (fun h => h rfl) ?_
  repeat (refine X_n rfl rfl rfl ?_)
  refine X_la rfl rfl rfl hF hm ?_
  refine X_bt rfl rfl rfl h ?_
  repeat (refine X_n rfl rfl rfl ?_)
  refine X_cd rfl rfl rfl rfl Y_refuses ?_
  refine X_nz rfl (fun q => absurd q (by decide)) (fun _ => ?_)
  repeat (refine X_n rfl rfl rfl ?_)
  refine X_sa rfl rfl rfl hF hm ?_
  repeat (refine X_n rfl rfl rfl ?_)
  refine X_cd rfl rfl rfl rfl Y_changed ?_
  exact X_r rfl rfl rfl rfl k
theorem Y_mexit_no {x z r : Int32} (h : (x < 0 ∨ nI F.1 ≤ x ∨ z < 0 ∨ nI F.2.1 ≤ z) ∨ ¬ (1 ≤ r ∧ r ≤ 5)) : Yd y_Model_exit [.ref 169, .int x, .int z, .int r] (hp F C J G) (.inl (some (.int 0))) (hp F (st C 169 0 1) J G) := by
  refine Yd_of (fun Q k => ?_)
  unfold Y
  have tail : X y_Model_exit 23 [some (.ref 169), some (.int x), some (.int z), some (.int r), none, none, none] [] (hp F C J G) Q := by
    repeat (refine X_n rfl rfl rfl ?_)
    refine X_bt rfl rfl rfl rfl ?_
    repeat (refine X_n rfl rfl rfl ?_)
    refine X_bt rfl rfl rfl rfl ?_
    repeat (refine X_n rfl rfl rfl ?_)
    refine X_bf rfl rfl rfl (fun h => h rfl) ?_
    repeat (refine X_n rfl rfl rfl ?_)
    refine X_cd rfl rfl rfl rfl Y_refuses ?_
    refine X_z rfl (fun q => absurd (by decide) q) (fun _ => ?_)
    repeat (refine X_n rfl rfl rfl ?_)
    exact X_r rfl rfl rfl rfl k
  repeat (refine X_n rfl rfl rfl ?_)
  refine X_cd rfl rfl rfl rfl Y_isCell ?_
  refine X_z rfl (fun q => ?_) (fun q => ?_)
  · exact tail
  · have h : ¬ (1 ≤ r ∧ r ≤ 5) := h.resolve_left (fun h => inC_no h q)
    repeat (refine X_n rfl rfl rfl ?_)
    refine X_b rfl rfl rfl (fun q1 => ?_) (fun q1 => ?_)
    · exact tail
    · repeat (refine X_n rfl rfl rfl ?_)
      refine X_b rfl rfl rfl (fun q2 => ?_) (fun q2 => ?_)
      · exact tail
      · exact absurd ⟨i32_pos (Int32.not_le.mp q1), i32_le5 (Int32.not_le.mp q2)⟩ h
theorem Y_mexit_no2 {i j P : Nat} {r : Int32} (hF : okF F) (hi : i < F.1) (hj : j < F.2.1) (hr : 1 ≤ r ∧ r ≤ 5) (hP60 : P ≤ 60) (hP : C 169 9 = nI P) (hw : C 170 (24 * j + i) = 0 ∨ C 170 (24 * j + i) = 1) (h : C 170 (24 * j + i) = 1 ∨ (∃ p, p < P ∧ C 175 p = nI (24 * j + i)) ∨ (C 171 (24 * j + i) < 0 ∧ C 169 7 = 8)) : Yd y_Model_exit [.ref 169, .int (nI i), .int (nI j), .int r] (hp F C J G) (.inl (some (.int 0))) (hp F (st C 169 0 2) J G) := by
  refine Yd_of (fun Q k => ?_)
  unfold Y
  have hm := m576 hF hi hj
  obtain ⟨r1, r2⟩ := r6' hr
  have tail : X y_Model_exit 89 [some (.ref 169), some (.int (nI i)), some (.int (nI j)), some (.int r), some (.int 1), some (.int (nI (24 * j + i))), none] [] (hp F C J G) Q := by
    repeat (refine X_n rfl rfl rfl ?_)
    refine X_bt rfl rfl rfl (show ¬ (1 : Int32) = 0 by decide) ?_
    repeat (refine X_n rfl rfl rfl ?_)
    refine X_bf rfl rfl rfl (fun h => h rfl) ?_
    repeat (refine X_n rfl rfl rfl ?_)
    refine X_cd rfl rfl rfl rfl Y_refuses ?_
    refine X_z rfl (fun q => absurd (by decide) q) (fun _ => ?_)
    repeat (refine X_n rfl rfl rfl ?_)
    exact X_r rfl rfl rfl rfl k
  repeat (refine X_n rfl rfl rfl ?_)
  refine X_cd rfl rfl rfl rfl Y_isCell ?_
  refine X_z rfl (fun q => ?_) (fun q => ?_)
  · exact absurd (inC_yes hF hi hj) q
  repeat (refine X_n rfl rfl rfl ?_)
  refine X_bf rfl rfl rfl (Int32.not_le.mpr r1) ?_
  repeat (refine X_n rfl rfl rfl ?_)
  refine X_bf rfl rfl rfl (Int32.not_le.mpr r2) ?_
  repeat (refine X_n rfl rfl rfl ?_)
  refine X_bf rfl rfl rfl (show ¬ (1 : Int32) = 0 by decide) ?_
  repeat (refine X_n rfl rfl rfl ?_)
  refine X_cd rfl rfl rfl rfl (Y_mcell _) ?_
  repeat (refine X_n rfl rfl rfl ?_)
  refine X_bf rfl rfl rfl (show ¬ (1 : Int32) = 0 by decide) ?_
  repeat (refine X_n rfl rfl rfl ?_)
  refine X_lb rfl rfl rfl hF hm ?_
  rcases hw with h0 | h0
  · have h := h.resolve_left (fun e => by rw [h0] at e; exact absurd e (by decide))
    rw [h0]
    refine X_bf rfl rfl rfl (fun h => h rfl) ?_
    repeat (refine X_n rfl rfl rfl ?_)
    refine X_k rfl rfl rfl rfl (Y_hasPerson hF hP60 hP (fun _ => ?_) (fun hn => ?_))
    · refine X_bt rfl rfl rfl (show ¬ (1 : Int32) = 0 by decide) ?_
      exact tail
    · rcases h with ⟨p, h1, h2⟩ | ⟨h1, h2⟩
      · exact absurd h2 (hn p h1)
      · refine X_bf rfl rfl rfl (fun h => h rfl) ?_
        repeat (refine X_n rfl rfl rfl ?_)
        refine X_la rfl rfl rfl hF hm ?_
        refine X_bf rfl rfl rfl (Int32.not_le.mpr h1) ?_
        repeat (refine X_n rfl rfl rfl ?_)
        refine X_bt rfl rfl rfl (show 8 ≤ C 169 7 by rw [h2]; decide) ?_
        exact tail
  · rw [h0]
    refine X_bt rfl rfl rfl (show ¬ (1 : Int32) = 0 by decide) ?_
    exact tail
theorem Y_mexit_old {i j P : Nat} {r : Int32} (hF : okF F) (hi : i < F.1) (hj : j < F.2.1) (hr : 1 ≤ r ∧ r ≤ 5) (hP60 : P ≤ 60) (hP : C 169 9 = nI P) (h0 : C 170 (24 * j + i) = 0) (hn : ∀ p, p < P → ¬ C 175 p = nI (24 * j + i)) (h1 : 0 ≤ C 171 (24 * j + i)) : Yd y_Model_exit [.ref 169, .int (nI i), .int (nI j), .int r] (hp F C J G) (.inl (some (.int (C 171 (24 * j + i))))) (hp F (mch (st (st C 169 0 0) 172 (24 * j + i) r)) J G) := by
  refine Yd_of (fun Q k => ?_)
  unfold Y
  have hm := m576 hF hi hj
  obtain ⟨r1, r2⟩ := r6' hr
  repeat (refine X_n rfl rfl rfl ?_)
  refine X_cd rfl rfl rfl rfl Y_isCell ?_
  refine X_z rfl (fun q => ?_) (fun q => ?_)
  · exact absurd (inC_yes hF hi hj) q
  repeat (refine X_n rfl rfl rfl ?_)
  refine X_bf rfl rfl rfl (Int32.not_le.mpr r1) ?_
  repeat (refine X_n rfl rfl rfl ?_)
  refine X_bf rfl rfl rfl (Int32.not_le.mpr r2) ?_
  repeat (refine X_n rfl rfl rfl ?_)
  refine X_bf rfl rfl rfl (show ¬ (1 : Int32) = 0 by decide) ?_
  repeat (refine X_n rfl rfl rfl ?_)
  refine X_cd rfl rfl rfl rfl (Y_mcell _) ?_
  repeat (refine X_n rfl rfl rfl ?_)
  refine X_bf rfl rfl rfl (show ¬ (1 : Int32) = 0 by decide) ?_
  repeat (refine X_n rfl rfl rfl ?_)
  refine X_lb rfl rfl rfl hF hm ?_
  rw [h0]
  refine X_bf rfl rfl rfl (fun h => h rfl) ?_
  repeat (refine X_n rfl rfl rfl ?_)
  refine X_k rfl rfl rfl rfl (Y_hasPerson hF hP60 hP (fun hy => ?_) (fun _ => ?_))
  · obtain ⟨p, a, b⟩ := hy
    exact absurd b (hn p a)
  refine X_bf rfl rfl rfl (fun h => h rfl) ?_
  repeat (refine X_n rfl rfl rfl ?_)
  refine X_la rfl rfl rfl hF hm ?_
  refine X_bt rfl rfl rfl h1 ?_
  repeat (refine X_n rfl rfl rfl ?_)
  refine X_bt rfl rfl rfl (show ¬ (1 : Int32) = 0 by decide) ?_
  repeat (refine X_n rfl rfl rfl ?_)
  refine X_bt rfl rfl rfl (show ¬ (1 : Int32) = 0 by decide) ?_
  repeat (refine X_n rfl rfl rfl ?_)
  refine X_cd rfl rfl rfl rfl Y_refuses ?_
  refine X_z rfl (fun _ => ?_) (fun q => absurd q (by decide))
  repeat (refine X_n rfl rfl rfl ?_)
  refine X_la rfl rfl rfl hF hm ?_
  refine X_bt rfl rfl rfl (show 0 ≤ st C 169 0 0 171 (24 * j + i) from h1) ?_
  repeat (refine X_n rfl rfl rfl ?_)
  refine X_sa rfl rfl rfl hF hm ?_
  repeat (refine X_n rfl rfl rfl ?_)
  refine X_cd rfl rfl rfl rfl Y_changed ?_
  repeat (refine X_n rfl rfl rfl ?_)
  refine X_la rfl rfl rfl hF hm ?_
  exact X_r rfl rfl rfl rfl k
theorem Y_mexit_new {i j P n8 : Nat} {r : Int32} (hF : okF F) (hi : i < F.1) (hj : j < F.2.1) (hr : 1 ≤ r ∧ r ≤ 5) (hP60 : P ≤ 60) (hP : C 169 9 = nI P) (h0 : C 170 (24 * j + i) = 0) (hn : ∀ p, p < P → ¬ C 175 p = nI (24 * j + i)) (h1 : C 171 (24 * j + i) < 0) (hX : C 169 7 = nI n8) (h8 : n8 < 8) : Yd y_Model_exit [.ref 169, .int (nI i), .int (nI j), .int r] (hp F C J G) (.inl (some (.int (nI n8)))) (hp F (mch (st (st (st (st (st C 169 0 0) 171 (24 * j + i) (nI n8)) 174 n8 (nI (24 * j + i))) 169 7 (nI (n8 + 1))) 172 (24 * j + i) r)) J G) := by
  refine Yd_of (fun Q k => ?_)
  unfold Y
  have hm := m576 hF hi hj
  obtain ⟨r1, r2⟩ := r6' hr
  repeat (refine X_n rfl rfl rfl ?_)
  refine X_cd rfl rfl rfl rfl Y_isCell ?_
  refine X_z rfl (fun q => ?_) (fun q => ?_)
  · exact absurd (inC_yes hF hi hj) q
  repeat (refine X_n rfl rfl rfl ?_)
  refine X_bf rfl rfl rfl (Int32.not_le.mpr r1) ?_
  repeat (refine X_n rfl rfl rfl ?_)
  refine X_bf rfl rfl rfl (Int32.not_le.mpr r2) ?_
  repeat (refine X_n rfl rfl rfl ?_)
  refine X_bf rfl rfl rfl (show ¬ (1 : Int32) = 0 by decide) ?_
  repeat (refine X_n rfl rfl rfl ?_)
  refine X_cd rfl rfl rfl rfl (Y_mcell _) ?_
  repeat (refine X_n rfl rfl rfl ?_)
  refine X_bf rfl rfl rfl (show ¬ (1 : Int32) = 0 by decide) ?_
  repeat (refine X_n rfl rfl rfl ?_)
  refine X_lb rfl rfl rfl hF hm ?_
  rw [h0]
  refine X_bf rfl rfl rfl (fun h => h rfl) ?_
  repeat (refine X_n rfl rfl rfl ?_)
  refine X_k rfl rfl rfl rfl (Y_hasPerson hF hP60 hP (fun hy => ?_) (fun _ => ?_))
  · obtain ⟨p, a, b⟩ := hy
    exact absurd b (hn p a)
  refine X_bf rfl rfl rfl (fun h => h rfl) ?_
  repeat (refine X_n rfl rfl rfl ?_)
  refine X_la rfl rfl rfl hF hm ?_
  refine X_bf rfl rfl rfl (Int32.not_le.mpr h1) ?_
  repeat (refine X_n rfl rfl rfl ?_)
  refine X_bf rfl rfl rfl (show ¬ 8 ≤ C 169 7 by rw [hX]; exact nI_ge (b := 8) h8 (by omega)) ?_
  repeat (refine X_n rfl rfl rfl ?_)
  refine X_bt rfl rfl rfl (show ¬ (1 : Int32) = 0 by decide) ?_
  repeat (refine X_n rfl rfl rfl ?_)
  refine X_bt rfl rfl rfl (show ¬ (1 : Int32) = 0 by decide) ?_
  repeat (refine X_n rfl rfl rfl ?_)
  refine X_cd rfl rfl rfl rfl Y_refuses ?_
  refine X_z rfl (fun _ => ?_) (fun q => absurd q (by decide))
  have e7 : st C 169 0 0 169 7 = nI n8 := hX
  repeat (refine X_n rfl rfl rfl ?_)
  refine X_la rfl rfl rfl hF hm ?_
  refine X_bf rfl rfl rfl (show ¬ 0 ≤ st C 169 0 0 171 (24 * j + i) from Int32.not_le.mpr h1) ?_
  repeat (refine X_n rfl rfl rfl ?_)
  refine X_top (w := nI n8) hX ?_
  refine X_sa rfl rfl rfl hF hm ?_
  iterate 5 (refine X_n rfl rfl rfl ?_)
  refine X_sa (k := n8) rfl rfl hX hF h8 ?_
  iterate 5 (refine X_n rfl rfl rfl ?_)
  refine X_top (w := nI (n8 + 1)) (show C 169 7 + 1 = nI (n8 + 1) by rw [hX, nI_1]) ?_
  refine X_s rfl rfl ?_
  refine X_h (hp_f169_7 rfl) ?_
  repeat (refine X_n rfl rfl rfl ?_)
  refine X_sa rfl rfl rfl hF hm ?_
  repeat (refine X_n rfl rfl rfl ?_)
  refine X_cd rfl rfl rfl rfl Y_changed ?_
  repeat (refine X_n rfl rfl rfl ?_)
  refine X_la rfl rfl rfl hF hm ?_
  refine X_top (w := nI n8) ?_ ?_
  · rw [st_k (by omega), st_k (by omega), st_k (by omega), st_k (by omega), st_k (by omega), st_s]
  exact X_r rfl rfl rfl rfl k
theorem r600 {a d : Int32} (h1 : 1 ≤ a ∧ a ≤ 5) : 0 < a ∧ a < 6 := r6' h1
theorem Y_mperson_no {x z a d : Int32} (h : (x < 0 ∨ nI F.1 ≤ x ∨ z < 0 ∨ nI F.2.1 ≤ z) ∨ ¬ (1 ≤ a ∧ a ≤ 5) ∨ ¬ (0 ≤ d ∧ d ≤ 600)) : Yd y_Model_person [.ref 169, .int x, .int z, .int a, .int d] (hp F C J G) (.inl (some (.int 0))) (hp F (st C 169 0 1) J G) := by
  refine Yd_of (fun Q k => ?_)
  unfold Y
  have tail : X y_Model_person 36 [some (.ref 169), some (.int x), some (.int z), some (.int a), some (.int d), none, none] [] (hp F C J G) Q := by
    repeat (refine X_n rfl rfl rfl ?_)
    refine X_bt rfl rfl rfl rfl ?_
    repeat (refine X_n rfl rfl rfl ?_)
    refine X_bf rfl rfl rfl (fun h => h rfl) ?_
    repeat (refine X_n rfl rfl rfl ?_)
    refine X_cd rfl rfl rfl rfl Y_refuses ?_
    refine X_z rfl (fun q => absurd (by decide) q) (fun _ => ?_)
    repeat (refine X_n rfl rfl rfl ?_)
    exact X_r rfl rfl rfl rfl k
  repeat (refine X_n rfl rfl rfl ?_)
  refine X_cd rfl rfl rfl rfl Y_isCell ?_
  refine X_z rfl (fun q => ?_) (fun q => ?_)
  · exact tail
  · have h := h.resolve_left (fun h => inC_no h q)
    repeat (refine X_n rfl rfl rfl ?_)
    refine X_b rfl rfl rfl (fun q1 => ?_) (fun q1 => ?_)
    · exact tail
    · repeat (refine X_n rfl rfl rfl ?_)
      refine X_b rfl rfl rfl (fun q2 => ?_) (fun q2 => ?_)
      · exact tail
      · have h : ¬ (0 ≤ d ∧ d ≤ 600) := h.resolve_left (fun h => h ⟨i32_pos (Int32.not_le.mp q1), i32_le5 (Int32.not_le.mp q2)⟩)
        repeat (refine X_n rfl rfl rfl ?_)
        refine X_b rfl rfl rfl (fun q3 => ?_) (fun q3 => ?_)
        · exact tail
        · repeat (refine X_n rfl rfl rfl ?_)
          refine X_b rfl rfl rfl (fun q4 => ?_) (fun q4 => ?_)
          · exact tail
          · exact absurd ⟨Int32.not_lt.mp q3, Int32.not_lt.mp q4⟩ h
theorem Y_mperson_no2 {i j P : Nat} {a d : Int32} (hF : okF F) (hi : i < F.1) (hj : j < F.2.1) (ha : 1 ≤ a ∧ a ≤ 5) (hd : 0 ≤ d ∧ d ≤ 600) (hP60 : P ≤ 60) (hP : C 169 9 = nI P) (hw : C 170 (24 * j + i) = 0 ∨ C 170 (24 * j + i) = 1) (h : C 170 (24 * j + i) = 1 ∨ 0 ≤ C 171 (24 * j + i) ∨ (∃ p, p < P ∧ C 175 p = nI (24 * j + i)) ∨ P = 60) : Yd y_Model_person [.ref 169, .int (nI i), .int (nI j), .int a, .int d] (hp F C J G) (.inl (some (.int 0))) (hp F (st C 169 0 2) J G) := by
  refine Yd_of (fun Q k => ?_)
  unfold Y
  have hm := m576 hF hi hj
  obtain ⟨r1, r2⟩ := r6' ha
  have tail : X y_Model_person 103 [some (.ref 169), some (.int (nI i)), some (.int (nI j)), some (.int a), some (.int d), some (.int 1), some (.int (nI (24 * j + i)))] [.ref 169] (hp F C J G) Q := by
    repeat (refine X_n rfl rfl rfl ?_)
    refine X_cd rfl rfl rfl rfl Y_refuses ?_
    refine X_z rfl (fun q => absurd (by decide) q) (fun _ => ?_)
    repeat (refine X_n rfl rfl rfl ?_)
    exact X_r rfl rfl rfl rfl k
  repeat (refine X_n rfl rfl rfl ?_)
  refine X_cd rfl rfl rfl rfl Y_isCell ?_
  refine X_z rfl (fun q => ?_) (fun q => ?_)
  · exact absurd (inC_yes hF hi hj) q
  repeat (refine X_n rfl rfl rfl ?_)
  refine X_bf rfl rfl rfl (Int32.not_le.mpr r1) ?_
  repeat (refine X_n rfl rfl rfl ?_)
  refine X_bf rfl rfl rfl (Int32.not_le.mpr r2) ?_
  repeat (refine X_n rfl rfl rfl ?_)
  refine X_bf rfl rfl rfl (Int32.not_lt.mpr hd.1) ?_
  repeat (refine X_n rfl rfl rfl ?_)
  refine X_bf rfl rfl rfl (Int32.not_lt.mpr hd.2) ?_
  repeat (refine X_n rfl rfl rfl ?_)
  refine X_bf rfl rfl rfl (show ¬ (1 : Int32) = 0 by decide) ?_
  repeat (refine X_n rfl rfl rfl ?_)
  refine X_cd rfl rfl rfl rfl (Y_mcell _) ?_
  repeat (refine X_n rfl rfl rfl ?_)
  refine X_bt rfl rfl rfl (show ¬ (1 : Int32) = 0 by decide) ?_
  repeat (refine X_n rfl rfl rfl ?_)
  refine X_lb rfl rfl rfl hF hm ?_
  rcases hw with h0 | h0
  · have h := h.resolve_left (fun e => by rw [h0] at e; exact absurd e (by decide))
    rw [h0]
    refine X_bf rfl rfl rfl (fun h => h rfl) ?_
    repeat (refine X_n rfl rfl rfl ?_)
    refine X_la rfl rfl rfl hF hm ?_
    refine X_b rfl rfl rfl (fun q1 => ?_) (fun q1 => ?_)
    · exact tail
    · have h := h.resolve_left q1
      repeat (refine X_n rfl rfl rfl ?_)
      refine X_k rfl rfl rfl rfl (Y_hasPerson hF hP60 hP (fun _ => ?_) (fun hn => ?_))
      · refine X_bt rfl rfl rfl (show ¬ (1 : Int32) = 0 by decide) ?_
        exact tail
      · rcases h with ⟨p, a1, a2⟩ | h6
        · exact absurd a2 (hn p a1)
        · refine X_bf rfl rfl rfl (fun h => h rfl) ?_
          repeat (refine X_n rfl rfl rfl ?_)
          refine X_bf rfl rfl rfl (show ¬ ¬ C 169 9 = 60 from fun h => h (by rw [hP, h6]; rfl)) ?_
          exact tail
  · rw [h0]
    refine X_bt rfl rfl rfl (show ¬ (1 : Int32) = 0 by decide) ?_
    exact tail
def maddP (C : Ct) (P c : Nat) (a d : Int32) : Ct := mch (st (st (st (st (st (st C 169 0 0) 175 P (nI c)) 176 P a) 177 P d) 178 P (-1)) 169 9 (nI (P + 1)))
theorem Y_mperson {i j P : Nat} {a d : Int32} (hF : okF F) (hi : i < F.1) (hj : j < F.2.1) (ha : 1 ≤ a ∧ a ≤ 5) (hd : 0 ≤ d ∧ d ≤ 600) (hP60 : P < 60) (hP : C 169 9 = nI P) (h0 : C 170 (24 * j + i) = 0) (h1 : C 171 (24 * j + i) < 0) (hn : ∀ p, p < P → ¬ C 175 p = nI (24 * j + i)) : Yd y_Model_person [.ref 169, .int (nI i), .int (nI j), .int a, .int d] (hp F C J G) (.inl (some (.int (nI P)))) (hp F (maddP C P (24 * j + i) a d) J G) := by
  refine Yd_of (fun Q k => ?_)
  unfold Y
  have hm := m576 hF hi hj
  obtain ⟨r1, r2⟩ := r6' ha
  repeat (refine X_n rfl rfl rfl ?_)
  refine X_cd rfl rfl rfl rfl Y_isCell ?_
  refine X_z rfl (fun q => ?_) (fun q => ?_)
  · exact absurd (inC_yes hF hi hj) q
  repeat (refine X_n rfl rfl rfl ?_)
  refine X_bf rfl rfl rfl (Int32.not_le.mpr r1) ?_
  repeat (refine X_n rfl rfl rfl ?_)
  refine X_bf rfl rfl rfl (Int32.not_le.mpr r2) ?_
  repeat (refine X_n rfl rfl rfl ?_)
  refine X_bf rfl rfl rfl (Int32.not_lt.mpr hd.1) ?_
  repeat (refine X_n rfl rfl rfl ?_)
  refine X_bf rfl rfl rfl (Int32.not_lt.mpr hd.2) ?_
  repeat (refine X_n rfl rfl rfl ?_)
  refine X_bf rfl rfl rfl (show ¬ (1 : Int32) = 0 by decide) ?_
  repeat (refine X_n rfl rfl rfl ?_)
  refine X_cd rfl rfl rfl rfl (Y_mcell _) ?_
  repeat (refine X_n rfl rfl rfl ?_)
  refine X_bt rfl rfl rfl (show ¬ (1 : Int32) = 0 by decide) ?_
  repeat (refine X_n rfl rfl rfl ?_)
  refine X_lb rfl rfl rfl hF hm ?_
  rw [h0]
  refine X_bf rfl rfl rfl (fun h => h rfl) ?_
  repeat (refine X_n rfl rfl rfl ?_)
  refine X_la rfl rfl rfl hF hm ?_
  refine X_bf rfl rfl rfl (Int32.not_le.mpr h1) ?_
  repeat (refine X_n rfl rfl rfl ?_)
  refine X_k rfl rfl rfl rfl (Y_hasPerson hF (by omega) hP (fun hy => ?_) (fun _ => ?_))
  · obtain ⟨p, a1, a2⟩ := hy
    exact absurd a2 (hn p a1)
  refine X_bf rfl rfl rfl (fun h => h rfl) ?_
  repeat (refine X_n rfl rfl rfl ?_)
  refine X_bt rfl rfl rfl (show ¬ C 169 9 = 60 by rw [hP]; exact fun e => by have := (nI_eq (b := 60) (by omega) (by omega)).mp e; omega) ?_
  repeat (refine X_n rfl rfl rfl ?_)
  refine X_cd rfl rfl rfl rfl Y_refuses ?_
  refine X_z rfl (fun _ => ?_) (fun q => absurd q (by decide))
  repeat (refine X_n rfl rfl rfl ?_)
  refine X_sa (k := P) rfl rfl hP hF hP60 ?_
  repeat (refine X_n rfl rfl rfl ?_)
  refine X_sa (k := P) rfl rfl hP hF hP60 ?_
  repeat (refine X_n rfl rfl rfl ?_)
  refine X_sa (k := P) rfl rfl hP hF hP60 ?_
  repeat (refine X_n rfl rfl rfl ?_)
  refine X_sa (k := P) rfl rfl hP hF hP60 ?_
  iterate 5 (refine X_n rfl rfl rfl ?_)
  refine X_top (w := nI (P + 1)) (show C 169 9 + 1 = nI (P + 1) by rw [hP, nI_1]) ?_
  refine X_s rfl rfl ?_
  refine X_h (hp_f169_9 rfl) ?_
  repeat (refine X_n rfl rfl rfl ?_)
  refine X_cd rfl rfl rfl rfl Y_changed ?_
  repeat (refine X_n rfl rfl rfl ?_)
  refine X_top (w := nI P) (show nI (P + 1) - 1 = nI P from nI_pred P) ?_
  exact X_r rfl rfl rfl rfl k
theorem Y_mhabit_no {x e : Int32} (h : ¬ (0 ≤ x ∧ x < C 169 9) ∨ ¬ (-1 ≤ e ∧ e < C 169 7)) : Yd y_Model_habit [.ref 169, .int x, .int e] (hp F C J G) (.inl (some (.int 0))) (hp F (st C 169 0 1) J G) := by
  refine Yd_of (fun Q k => ?_)
  unfold Y
  repeat (refine X_n rfl rfl rfl ?_)
  refine X_b rfl rfl rfl (fun q1 => ?_) (fun q1 => ?_)
  · repeat (refine X_n rfl rfl rfl ?_)
    refine X_cd rfl rfl rfl rfl Y_refuses ?_
    refine X_z rfl (fun q => absurd (by decide) q) (fun _ => ?_)
    repeat (refine X_n rfl rfl rfl ?_)
    exact X_r rfl rfl rfl rfl k
  repeat (refine X_n rfl rfl rfl ?_)
  refine X_b rfl rfl rfl (fun q2 => ?_) (fun q2 => ?_)
  · repeat (refine X_n rfl rfl rfl ?_)
    refine X_cd rfl rfl rfl rfl Y_refuses ?_
    refine X_z rfl (fun q => absurd (by decide) q) (fun _ => ?_)
    repeat (refine X_n rfl rfl rfl ?_)
    exact X_r rfl rfl rfl rfl k
  repeat (refine X_n rfl rfl rfl ?_)
  have h := h.resolve_left (fun h => h ⟨Int32.not_lt.mp q1, Int32.not_le.mp q2⟩)
  refine X_b rfl rfl rfl (fun q3 => ?_) (fun q3 => ?_)
  · repeat (refine X_n rfl rfl rfl ?_)
    refine X_cd rfl rfl rfl rfl Y_refuses ?_
    refine X_z rfl (fun q => absurd (by decide) q) (fun _ => ?_)
    repeat (refine X_n rfl rfl rfl ?_)
    exact X_r rfl rfl rfl rfl k
  repeat (refine X_n rfl rfl rfl ?_)
  refine X_b rfl rfl rfl (fun q4 => ?_) (fun q4 => ?_)
  · exact absurd ⟨Int32.not_lt.mp q3, q4⟩ h
  · repeat (refine X_n rfl rfl rfl ?_)
    refine X_cd rfl rfl rfl rfl Y_refuses ?_
    refine X_z rfl (fun q => absurd (by decide) q) (fun _ => ?_)
    repeat (refine X_n rfl rfl rfl ?_)
    exact X_r rfl rfl rfl rfl k
theorem Y_mhabit {i P : Nat} {e : Int32} (hF : okF F) (hP60 : P ≤ 60) (hP : C 169 9 = nI P) (hi : i < P) (he : -1 ≤ e ∧ e < C 169 7) : Yd y_Model_habit [.ref 169, .int (nI i), .int e] (hp F C J G) (.inl (some (.int (C 178 i)))) (hp F (mch (st (st C 169 0 0) 178 i e)) J G) := by
  refine Yd_of (fun Q k => ?_)
  unfold Y
  repeat (refine X_n rfl rfl rfl ?_)
  refine X_bf rfl rfl rfl (nI_pos (by omega)) ?_
  repeat (refine X_n rfl rfl rfl ?_)
  refine X_bf rfl rfl rfl (show ¬ C 169 9 ≤ nI i by rw [hP]; exact nI_ge hi (by omega)) ?_
  repeat (refine X_n rfl rfl rfl ?_)
  refine X_bf rfl rfl rfl (Int32.not_lt.mpr he.1) ?_
  repeat (refine X_n rfl rfl rfl ?_)
  refine X_bt rfl rfl rfl he.2 ?_
  repeat (refine X_n rfl rfl rfl ?_)
  refine X_cd rfl rfl rfl rfl Y_refuses ?_
  refine X_z rfl (fun _ => ?_) (fun q => absurd q (by decide))
  repeat (refine X_n rfl rfl rfl ?_)
  refine X_la rfl rfl rfl hF (show i < 60 by omega) ?_
  repeat (refine X_n rfl rfl rfl ?_)
  refine X_sa rfl rfl rfl hF (show i < 60 by omega) ?_
  repeat (refine X_n rfl rfl rfl ?_)
  refine X_cd rfl rfl rfl rfl Y_changed ?_
  repeat (refine X_n rfl rfl rfl ?_)
  exact X_r rfl rfl rfl rfl k
end
end
section
/-! A RUN, without a machine. The state of a run: A 0 state, 1 end, 2 exit, 3 steps, 4 place (by person); 5 who, 6 came (by cell); 7 seconds, 8 cells of the steps (600 * person + step); 9 may step from (by person). N: who came in this second (by cell) -/
/-- the cells that a run goes by -/
def cfg (C C' : Ct) : Prop := ∀ k, ((1 ≤ k ∧ k ≤ 9) ∨ (23 ≤ k ∧ k ≤ 28)) → C' k = C k
/-- the walking numbers of row r (0: to all exits; e + 1: to exit e) -/
noncomputable def nuC (F : Fx) (C : Ct) (r : Nat) : Nat → Int32 := Classical.epsilon (fun row => rowOk F C (nI r - 1) row)
section
variable {F : Fx} {C : Ct}
theorem row_ex (hF : okF F) (hS : okS F C) {r : Nat} (hr : r < 9) : ∃ row, rowOk F C (nI r - 1) row := by
  obtain ⟨n, o, h', -, row, qf, -, -, h⟩ := Y_find (J := fun _ => 0) (G := (fun _ => mNo, 0, 0)) (g := nI r - 1) hF hS hr
  exact ⟨row, h⟩
theorem nuC_ok (hF : okF F) (hS : okS F C) {r : Nat} (hr : r < 9) : rowOk F C (nI r - 1) (nuC F C r) := Classical.epsilon_spec (p := fun row => rowOk F C (nI r - 1) row) (row_ex hF hS hr)
theorem row_eq {g : Int32} {r1 r2 : Nat → Int32} (h1 : rowOk F C g r1) (h2 : rowOk F C g r2) {c : Nat} (hc : c < F.1 * F.2.1) : r1 c = r2 c := by
  rcases h1 c hc with ⟨e1, n1⟩ | ⟨d, hd, e1, n1⟩ <;> rcases h2 c hc with ⟨e2, m1⟩ | ⟨d', hd', e2, m1⟩
  · rw [e1, e2]
  · exact absurd m1.1 (n1 d')
  · exact absurd n1.1 (m1 d)
  · rw [e1, e2, n1.uniq m1]
theorem nuC_row (hF : okF F) (hS : okS F C) {r : Nat} (hr : r < 9) {row : Nat → Int32} (h : rowOk F C (nI r - 1) row) {c : Nat} (hc : c < F.1 * F.2.1) : row c = nuC F C r c := row_eq h (nuC_ok hF hS hr) hc
theorem nu_or (hF : okF F) (hS : okS F C) {r c : Nat} (hr : r < 9) (hc : c < F.1 * F.2.1) : nuC F C r c = -1 ∨ ∃ d, d < F.1 * F.2.1 ∧ nuC F C r c = nI d := by
  rcases nuC_ok hF hS hr c hc with ⟨e, -⟩ | ⟨d, hd, e, -⟩
  · exact Or.inl e
  · exact Or.inr ⟨d, hd, e⟩
theorem nu_no (hF : okF F) (hS : okS F C) {r c : Nat} (hr : r < 9) (hc : c < F.1 * F.2.1) : nuC F C r c = -1 ↔ ∀ k, ¬ Rch (F.1 * F.2.1) (nbC C) (glC C (nI r - 1)) (opC C) k c := by
  have hn := hF.n
  rcases nuC_ok hF hS hr c hc with ⟨e, h⟩ | ⟨d, hd, e, h⟩
  · exact ⟨fun _ => h, fun _ => e⟩
  · exact ⟨fun e2 => by rw [e] at e2; exact absurd e2 (nI_nm1 (by omega)), fun h2 => absurd h.1 (h2 d)⟩
/-- beside a cell that has a number all open ones have one -/
theorem nu_nb (hF : okF F) (hS : okS F C) {r c w b : Nat} (hr : r < 9) (hc : c < F.1 * F.2.1) (ho : opC C c) (hw : w < 4) (hb : nbC C c w = some b) : nuC F C r b = -1 ↔ nuC F C r c = -1 := by
  have hb2 := nbC_in hF hS hc hw hb
  rw [nu_no hF hS hr hc, nu_no hF hS hr hb2.1]
  constructor
  · intro h k hk
    obtain ⟨w', hw', e⟩ := hS.sym hF c w b ho hc hw hb
    exact h (k + 1) (Or.inr ⟨hb2.2, w', c, hw', e, hk⟩)
  · intro h k hk
    exact h (k + 1) (Or.inr ⟨ho, w, b, hw, hb, hk⟩)
theorem nu_zero (hF : okF F) (hS : okS F C) {r c : Nat} (hr : r < 9) (hc : c < F.1 * F.2.1) : nuC F C r c = 0 ↔ glC C (nI r - 1) c := by
  have hn := hF.n
  rcases nuC_ok hF hS hr c hc with ⟨e, h⟩ | ⟨d, hd, e, h1, h2⟩
  · rw [e]
    exact ⟨fun q => absurd q (by decide), fun q => absurd ⟨hc, q⟩ (h 0)⟩
  · rw [e]
    constructor
    · intro q
      have : d = 0 := (nI_eq (b := 0) (by omega) (by omega)).mp q
      subst this
      exact h1.2
    · intro q
      by_cases e0 : d = 0
      · rw [e0]; rfl
      · exact absurd ⟨hc, q⟩ (h2 0 (by omega))
end
def brd (C : Ct) (c t : Nat) : Prop := ¬ C 4 c = -1 ∧ C 4 c ≤ nI t
def hasR (C : Ct) (c : Nat) : Prop := C 2 c = 2 ∨ C 2 c = 3
/-- where a person starts; the row of its habit; the row that it goes by -/
def s0 (C : Ct) (p : Nat) : Nat := (C 24 p).toNatClampNeg
def hRow (C : Ct) (p : Nat) : Nat := (C 27 p + 1).toNatClampNeg
noncomputable def gRow (F : Fx) (C : Ct) (p : Nat) : Nat := m_if (nuC F C (hRow C p) (s0 C p) = -1) 0 (hRow C p)
def pA (A : Ct) (p : Nat) : Nat := (A 4 p).toNatClampNeg
/-- may the cell b be entered -/
def ent (C A : Ct) (N : Nat → Int32) (t b : Nat) : Prop := A 5 b = -1 ∧ ¬ brd C b t ∧ (¬ hasR C b ∨ N b < C 3 b)
def good (F : Fx) (C A : Ct) (N : Nat → Int32) (t r c b : Nat) : Prop := (¬ nuC F C r b = -1 ∧ nuC F C r b < nuC F C r c) ∧ ent C A N t b
/-- the first cell to step to, of the last d ways -/
noncomputable def tgt (F : Fx) (C A : Ct) (N : Nat → Int32) (t r c : Nat) : Nat → Option Nat
  | 0 => none
  | d + 1 => match nbC C c (3 - d) with
    | some b => m_if (good F C A N t r c b) (some b) (tgt F C A N t r c d)
    | none => tgt F C A N t r c d
def mv (C : Ct) (t p b : Nat) (A : Ct) : Ct := st (st (st (st (st (st (st A 5 (pA A p) (-1)) 6 b (A 6 b + 1)) 7 (600 * p + (A 3 p).toNatClampNeg) (nI t)) 8 (600 * p + (A 3 p).toNatClampNeg) (nI b)) 3 p (A 3 p + 1)) 9 p (nI t + C 25 p)) 4 p (nI b)
noncomputable def stp (F : Fx) (C : Ct) (t p b : Nat) (A : Ct) : Ct := m_if (nuC F C (gRow F C p) b = 0) (st (st (st (mv C t p b A) 0 p 1) 1 p (nI t)) 2 p (C 5 b)) (st (mv C t p b A) 5 b (nI p))
noncomputable def go1 (F : Fx) (C : Ct) (t : Nat) (z : Ct × (Nat → Int32)) (p : Nat) : Ct × (Nat → Int32) := match tgt F C z.1 z.2 t (gRow F C p) (pA z.1 p) 4 with
  | some b => (stp F C t p b z.1, upd z.2 b (z.2 b + 1))
  | none => z
/-- smoke: the persons below i -/
noncomputable def ctI (C : Ct) (t : Nat) (A : Ct) : Nat → Ct
  | 0 => A
  | i + 1 => m_if (ctI C t A i 0 i = 0 ∧ brd C (pA (ctI C t A i) i) t) (st (st (st (ctI C t A i) 5 (pA (ctI C t A i) i) (-1)) 0 i 2) 1 i (nI t)) (ctI C t A i)
noncomputable def nuP (F : Fx) (C A : Ct) (p : Nat) : Int32 := nuC F C (gRow F C p) (pA A p)
/-- who may step -/
def cand (F : Fx) (C A : Ct) (t p : Nat) : Prop := A 0 p = 0 ∧ A 9 p ≤ nI t ∧ ¬ nuP F C A p = -1
def lx (F : Fx) (C A : Ct) (a b : Nat) : Prop := nuP F C A a < nuP F C A b ∨ (nuP F C A a = nuP F C A b ∧ a < b)
/-- the order of those below i who may step -/
def Ord (F : Fx) (C A : Ct) (t i : Nat) (l : List Nat) : Prop := l.Pairwise (lx F C A) ∧ ∀ p, p ∈ l ↔ p < i ∧ cand F C A t p
noncomputable def ordL (F : Fx) (C A : Ct) (t i : Nat) : List Nat := Classical.epsilon (fun l => Ord F C A t i l)
/-- a second -/
noncomputable def sec (F : Fx) (C : Ct) (P t : Nat) (A : Ct) : Ct := ((ordL F C (ctI C t A P) t P).foldl (go1 F C t) (ctI C t A P, fun _ => 0)).1
def waits (P : Nat) (A : Ct) : Prop := ∃ p, p < P ∧ A 0 p = 0
/-- the run from second t on, so many seconds at most -/
noncomputable def runF (F : Fx) (C : Ct) (P : Nat) : Nat → Nat → Ct → Nat × Ct
  | 0, t, A => (t, A)
  | d + 1, t, A => m_if (waits P A) (runF F C P d (t + 1) (sec F C P (t + 1) A)) (t, A)
/-- how it begins -/
def bgn (C : Ct) : Ct := fun f i => if f = 1 ∨ f = 2 then -1 else if f = 4 then C 24 i else if f = 5 then C 28 i else if f = 9 then C 26 i + C 25 i else 0
noncomputable def fin (F : Fx) (C : Ct) (P : Nat) : Nat × Ct := runF F C P 3600 0 (bgn C)
/-! the order -/
section
variable {F : Fx} {C A : Ct} {t : Nat}
theorem i32_irr (a : Int32) : ¬ a < a := fun h => Int32.not_lt.mpr (Int32.le_refl a) h
theorem lx_asym {a b : Nat} (h1 : lx F C A a b) (h2 : lx F C A b a) : False := by
  rcases h1 with h1 | ⟨e1, h1⟩ <;> rcases h2 with h2 | ⟨e2, h2⟩
  · exact i32_irr _ (Int32.lt_trans h1 h2)
  · rw [e2] at h1; exact i32_irr _ h1
  · rw [e1] at h2; exact i32_irr _ h2
  · omega
theorem pw_uniq : ∀ (l1 l2 : List Nat), l1.Pairwise (lx F C A) → l2.Pairwise (lx F C A) → (∀ p, p ∈ l1 ↔ p ∈ l2) → l1 = l2 := by
  intro l1
  induction l1 with
  | nil =>
    intro l2 _ _ h
    cases l2 with
    | nil => rfl
    | cons b t2 => exact absurd ((h b).mpr (List.mem_cons_self ..)) (by simp)
  | cons a t1 ih =>
    intro l2 h1 h2 h
    cases l2 with
    | nil => exact absurd ((h a).mp (List.mem_cons_self ..)) (by simp)
    | cons b t2 =>
      have hab : a = b := by
        have m1 := (h a).mp (List.mem_cons_self ..)
        have m2 := (h b).mpr (List.mem_cons_self ..)
        rcases List.mem_cons.mp m1 with e | m1
        · exact e
        rcases List.mem_cons.mp m2 with e | m2
        · exact e.symm
        exact (lx_asym ((List.pairwise_cons.mp h1).1 b m2) ((List.pairwise_cons.mp h2).1 a m1)).elim
      subst hab
      have n1 : a ∉ t1 := fun m => lx_asym ((List.pairwise_cons.mp h1).1 a m) ((List.pairwise_cons.mp h1).1 a m)
      have n2 : a ∉ t2 := fun m => lx_asym ((List.pairwise_cons.mp h2).1 a m) ((List.pairwise_cons.mp h2).1 a m)
      rw [ih t2 (List.pairwise_cons.mp h1).2 (List.pairwise_cons.mp h2).2 (fun p => ⟨fun m => by
        rcases List.mem_cons.mp ((h p).mp (List.mem_cons_of_mem _ m)) with e | m'
        · subst e; exact absurd m n1
        · exact m', fun m => by
        rcases List.mem_cons.mp ((h p).mpr (List.mem_cons_of_mem _ m)) with e | m'
        · subst e; exact absurd m n2
        · exact m'⟩)]
theorem Ord.uniq {i : Nat} {l1 l2 : List Nat} (h1 : Ord F C A t i l1) (h2 : Ord F C A t i l2) : l1 = l2 :=
  pw_uniq l1 l2 h1.1 h2.1 (fun p => (h1.2 p).trans (h2.2 p).symm)
/-- one more is put in its place: behind all whose number is not greater -/
theorem Ord.ins {i : Nat} {l1 l2 : List Nat} (h : Ord F C A t i (l1 ++ l2)) (hc : cand F C A t i) (hl : ∀ p, p ∈ l1 → nuP F C A p ≤ nuP F C A i) (hr : ∀ p, p ∈ l2 → nuP F C A i < nuP F C A p) : Ord F C A t (i + 1) (l1 ++ i :: l2) := by
  obtain ⟨h1, h2⟩ := h
  rw [List.pairwise_append] at h1
  refine ⟨?_, fun p => ?_⟩
  · rw [List.pairwise_append]
    refine ⟨h1.1, List.pairwise_cons.mpr ⟨fun p hp => Or.inl (hr p hp), h1.2.1⟩, fun a ha b hb => ?_⟩
    rcases List.mem_cons.mp hb with e | hb
    · subst e
      have hlt : a < b := ((h2 a).mp (List.mem_append_left _ ha)).1
      rcases Int32.lt_or_eq_of_le (hl a ha) with q | q
      · exact Or.inl q
      · exact Or.inr ⟨q, hlt⟩
    · exact h1.2.2 a ha b hb
  · constructor
    · intro hp
      rcases List.mem_append.mp hp with m | m
      · have := (h2 p).mp (List.mem_append_left _ m)
        exact ⟨by omega, this.2⟩
      · rcases List.mem_cons.mp m with e | m
        · subst e; exact ⟨by omega, hc⟩
        · have := (h2 p).mp (List.mem_append_right _ m)
          exact ⟨by omega, this.2⟩
    · rintro ⟨hp, hcp⟩
      by_cases e : p = i
      · subst e; exact List.mem_append_right _ (List.mem_cons_self ..)
      · rcases List.mem_append.mp ((h2 p).mpr ⟨by omega, hcp⟩) with m | m
        · exact List.mem_append_left _ m
        · exact List.mem_append_right _ (List.mem_cons_of_mem _ m)
theorem Ord.skip {i : Nat} {l : List Nat} (h : Ord F C A t i l) (hc : ¬ cand F C A t i) : Ord F C A t (i + 1) l :=
  ⟨h.1, fun p => (h.2 p).trans ⟨fun q => ⟨by omega, q.2⟩, fun q => ⟨by
    by_cases e : p = i
    · subst e; exact absurd q.2 hc
    · omega, q.2⟩⟩⟩
theorem Ord.nil : Ord F C A t 0 [] := ⟨List.Pairwise.nil, fun p => ⟨fun h => (by cases h), fun h => by omega⟩⟩
/-- a sorted list is parted at any number -/
theorem pw_part (n : Int32) : ∀ l : List Nat, l.Pairwise (lx F C A) → ∃ l1 l2, l = l1 ++ l2 ∧ (∀ p, p ∈ l1 → nuP F C A p ≤ n) ∧ ∀ p, p ∈ l2 → n < nuP F C A p := by
  intro l
  induction l with
  | nil => intro _; exact ⟨[], [], rfl, fun p h => (by cases h), fun p h => (by cases h)⟩
  | cons a l ih =>
    intro h
    obtain ⟨ha, hl⟩ := List.pairwise_cons.mp h
    by_cases q : nuP F C A a ≤ n
    · obtain ⟨l1, l2, e, h1, h2⟩ := ih hl
      refine ⟨a :: l1, l2, by rw [e]; rfl, fun p hp => ?_, h2⟩
      rcases List.mem_cons.mp hp with e | m
      · subst e; exact q
      · exact h1 p m
    · have q := Int32.not_le.mp q
      refine ⟨[], a :: l, rfl, fun p h => (by cases h), fun p hp => ?_⟩
      rcases List.mem_cons.mp hp with e | m
      · subst e; exact q
      · rcases ha p m with g | ⟨g, -⟩
        · exact Int32.lt_trans q g
        · rw [← g]; exact q
theorem Ord.ex : ∀ i, ∃ l, Ord F C A t i l := by
  intro i
  induction i with
  | zero => exact ⟨[], Ord.nil⟩
  | succ i ih =>
    obtain ⟨l, h⟩ := ih
    by_cases hc : cand F C A t i
    · obtain ⟨l1, l2, e, h1, h2⟩ := pw_part (F := F) (C := C) (A := A) (nuP F C A i) l h.1
      subst e
      exact ⟨_, h.ins hc h1 h2⟩
    · exact ⟨l, h.skip hc⟩
theorem ordL_ok (i : Nat) : Ord F C A t i (ordL F C A t i) := Classical.epsilon_spec (p := fun l => Ord F C A t i l) (Ord.ex i)
theorem ordL_eq {i : Nat} {l : List Nat} (h : Ord F C A t i l) : l = ordL F C A t i := h.uniq (ordL_ok i)
end
end
section
/-! what holds all through a run -/
def okP (F : Fx) (C : Ct) (P : Nat) : Prop := P ≤ 60 ∧ C 23 5 = nI P ∧ (∀ p, p < P → (∃ c, c < F.1 * F.2.1 ∧ C 24 p = nI c ∧ C 28 c = nI p ∧ ¬ C 2 c = 1 ∧ ¬ C 2 c = 2) ∧ (∃ a, 1 ≤ a ∧ a ≤ 5 ∧ C 25 p = nI a) ∧ (∃ d, d ≤ 600 ∧ C 26 p = nI d) ∧ (C 27 p = -1 ∨ ∃ x, C 27 p = nI x ∧ x < 8 ∧ nI x < C 1 11)) ∧ (∀ c, c < F.1 * F.2.1 → C 28 c = -1 ∨ ∃ p, p < P ∧ C 28 c = nI p ∧ C 24 p = nI c)
def pinv (F : Fx) (C : Ct) (t : Nat) (A : Ct) (p : Nat) : Prop :=
  (∃ c, c < F.1 * F.2.1 ∧ A 4 p = nI c ∧ opC C c ∧ ∀ r, r < 9 → (nuC F C r c = -1 ↔ nuC F C r (s0 C p) = -1)) ∧
  (∃ k, A 3 p = nI k ∧ k + (nuP F C A p).toNatClampNeg < F.1 * F.2.1 ∧
    (∀ j, j < k → (∃ s, s ≤ t ∧ A 7 (600 * p + j) = nI s) ∧ ∃ c, c < F.1 * F.2.1 ∧ A 8 (600 * p + j) = nI c) ∧
    ∃ f a, 1 ≤ a ∧ a ≤ 5 ∧ C 25 p = nI a ∧ A 9 p = nI (f + a) ∧ ((k = 0 ∧ f ≤ 600 ∧ C 26 p = nI f) ∨ (0 < k ∧ A 7 (600 * p + (k - 1)) = nI f ∧ f ≤ t ∧ ∃ d, C 26 p = nI d ∧ d < f))) ∧
  ((A 0 p = 0 ∧ A 1 p = -1) ∨ ((A 0 p = 1 ∨ A 0 p = 2) ∧ ∃ e, e ≤ t ∧ A 1 p = nI e))
def inv (F : Fx) (C : Ct) (P t : Nat) (A : Ct) : Prop := (∀ p, p < P → pinv F C t A p) ∧ ∀ c, c < F.1 * F.2.1 → A 5 c = -1 ∨ ∃ p, p < 60 ∧ A 5 c = nI p
section
variable {F : Fx} {C A : Ct} {P t p b q : Nat} {N : Nat → Int32}
theorem pA_eq (hF : okF F) {c : Nat} (hc : c < F.1 * F.2.1) (h : A 4 p = nI c) : pA A p = c := by
  have hn := hF.n
  unfold pA
  rw [h, nI_clamp (by omega)]
theorem pinv.mono {t' : Nat} (h : pinv F C t A p) (ht : t ≤ t') : pinv F C t' A p := by
  obtain ⟨h1, ⟨k, h2, h3, h4, f, a, h5, h6, h7, h8, h9⟩, h10⟩ := h
  refine ⟨h1, ⟨k, h2, h3, fun j hj => ?_, f, a, h5, h6, h7, h8, ?_⟩, ?_⟩
  · obtain ⟨⟨s, hs, e⟩, g⟩ := h4 j hj
    exact ⟨⟨s, by omega, e⟩, g⟩
  · rcases h9 with g | ⟨g1, g2, g3, g4⟩
    · exact Or.inl g
    · exact Or.inr ⟨g1, g2, by omega, g4⟩
  · rcases h10 with g | ⟨g1, e, g2, g3⟩
    · exact Or.inl g
    · exact Or.inr ⟨g1, e, by omega, g3⟩
theorem inv.mono {t' : Nat} (h : inv F C P t A) (ht : t ≤ t') : inv F C P t' A := ⟨fun p hp => (h.1 p hp).mono ht, h.2⟩
/-- the same for a person whose places are the same -/
theorem pinv.same {A' : Ct} (h : pinv F C t A p) (hn : F.1 * F.2.1 ≤ 576) (h0 : A' 0 p = A 0 p) (h1 : A' 1 p = A 1 p) (h3 : A' 3 p = A 3 p) (h4 : A' 4 p = A 4 p) (h9 : A' 9 p = A 9 p) (h7 : ∀ j, j < 600 → A' 7 (600 * p + j) = A 7 (600 * p + j)) (h8 : ∀ j, j < 600 → A' 8 (600 * p + j) = A 8 (600 * p + j)) : pinv F C t A' p := by
  obtain ⟨g1, ⟨k, g2, g3, g4, f, a, g5, g6, g7, g8, g9⟩, g10⟩ := h
  have hP : nuP F C A' p = nuP F C A p := by unfold nuP pA; rw [h4]
  refine ⟨by rw [h4]; exact g1, ⟨k, by rw [h3]; exact g2, by rw [hP]; exact g3, fun j hj => ?_, f, a, g5, g6, g7, by rw [h9]; exact g8, ?_⟩, by rw [h0, h1]; exact g10⟩
  · rw [h7 j (by omega), h8 j (by omega)]; exact g4 j hj
  · rcases g9 with g | ⟨g, g'⟩
    · exact Or.inl g
    · exact Or.inr ⟨g, by rw [h7 _ (by omega)]; exact g'⟩
theorem st_q {C : Ct} {k i k' j : Nat} {v : Int32} (h : j ≠ i) : st C k i v k' j = C k' j := by
  rw [st_r]
  by_cases e : k' = k
  · rw [if_pos e, if_neg h, e]
  · rw [if_neg e]
theorem mv_f {f : Nat} (hq : q ≠ p) (hf : f ≤ 4 ∨ f = 9) : mv C t p b A f q = A f q := by
  have : f = 0 ∨ f = 1 ∨ f = 2 ∨ f = 3 ∨ f = 4 ∨ f = 9 := by omega
  rcases this with e | e | e | e | e | e <;> subst e <;> simp [mv, st_r, hq]
theorem stp_f {f : Nat} (hq : q ≠ p) (hf : f ≤ 4 ∨ f = 9) : stp F C t p b A f q = A f q := by
  unfold stp
  by_cases ho : nuC F C (gRow F C p) b = 0
  · rw [m_if_t ho, st_q hq, st_q hq, st_q hq]
    exact mv_f hq hf
  · rw [m_if_f ho, st_k (by omega)]
    exact mv_f hq hf
theorem stp_78 {f j : Nat} (hf : f = 7 ∨ f = 8) : stp F C t p b A f j = if j = 600 * p + (A 3 p).toNatClampNeg then (if f = 7 then nI t else nI b) else A f j := by
  have key : mv C t p b A f j = if j = 600 * p + (A 3 p).toNatClampNeg then (if f = 7 then nI t else nI b) else A f j := by
    rcases hf with e | e <;> subst e <;> simp [mv, st_r]
  unfold stp
  by_cases ho : nuC F C (gRow F C p) b = 0
  · rw [m_if_t ho, st_k (by omega), st_k (by omega), st_k (by omega), key]
  · rw [m_if_f ho, st_k (by omega), key]
theorem stp_349 : stp F C t p b A 3 p = A 3 p + 1 ∧ stp F C t p b A 4 p = nI b ∧ stp F C t p b A 9 p = nI t + C 25 p := by
  unfold stp
  by_cases ho : nuC F C (gRow F C p) b = 0
  · rw [m_if_t ho]; simp [mv, st_r]
  · rw [m_if_f ho]; simp [mv, st_r]
theorem stp_01 : (stp F C t p b A 0 p = 1 ∧ stp F C t p b A 1 p = nI t) ∨ (stp F C t p b A 0 p = A 0 p ∧ stp F C t p b A 1 p = A 1 p) := by
  unfold stp
  by_cases ho : nuC F C (gRow F C p) b = 0
  · left; rw [m_if_t ho]; simp [mv, st_r]
  · right; rw [m_if_f ho]; simp [mv, st_r]
theorem stp_5 {c : Nat} : stp F C t p b A 5 c = -1 ∨ stp F C t p b A 5 c = nI p ∨ stp F C t p b A 5 c = A 5 c := by
  unfold stp
  by_cases ho : nuC F C (gRow F C p) b = 0
  · rw [m_if_t ho]; simp only [mv, st_r]
    by_cases e : c = pA A p
    · left; simp [e]
    · right; right; simp [e]
  · rw [m_if_f ho]; simp only [mv, st_r]
    by_cases e2 : c = b
    · right; left; simp [e2]
    · by_cases e : c = pA A p
      · left; simp [e2, e]; intro h; exact absurd (e.trans h) e2
      · right; right; simp [e2, e]
/-- what the first good cell is -/
theorem tgt_some {r c : Nat} : ∀ d, d ≤ 4 → tgt F C A N t r c d = some b → ∃ w, w < 4 ∧ nbC C c w = some b ∧ good F C A N t r c b := by
  intro d
  induction d with
  | zero => intro _ h; cases h
  | succ d ih =>
    intro hd h
    rw [tgt] at h
    cases hb : nbC C c (3 - d) with
    | none => rw [hb] at h; exact ih (by omega) h
    | some b' =>
      rw [hb] at h
      dsimp only at h
      by_cases g : good F C A N t r c b'
      · rw [m_if_t g] at h
        cases h
        exact ⟨3 - d, by omega, hb, g⟩
      · rw [m_if_f g] at h
        exact ih (by omega) h
theorem hRow_lt (hP : okP F C P) (hp : p < P) : hRow C p < 9 := by
  obtain ⟨-, -, h, -⟩ := hP
  unfold hRow
  rcases (h p hp).2.2.2 with e | ⟨x, e, h8, -⟩
  · rw [e]; decide
  · rw [e, nI_1, nI_clamp (by omega)]; omega
theorem gRow_lt (hP : okP F C P) (hp : p < P) : gRow F C p < 9 := by
  unfold gRow
  by_cases h : nuC F C (hRow C p) (s0 C p) = -1
  · rw [m_if_t h]; omega
  · rw [m_if_f h]; exact hRow_lt hP hp
theorem s0_lt (hF : okF F) (hP : okP F C P) (hp : p < P) : s0 C p < F.1 * F.2.1 ∧ C 24 p = nI (s0 C p) ∧ opC C (s0 C p) := by
  have hn := hF.n
  obtain ⟨-, -, h, -⟩ := hP
  obtain ⟨c, hc, e, -, h1, -⟩ := (h p hp).1
  unfold s0
  rw [e, nI_clamp (by omega)]
  exact ⟨hc, rfl, h1⟩
theorem stp_inv (hF : okF F) (hS : okS F C) (hP : okP F C P) (hi : inv F C P t A) (ht : t ≤ 3600) (hp : p < P) (h0 : A 0 p = 0) (h9 : A 9 p ≤ nI t) {w : Nat} (hw : w < 4) (hb : nbC C (pA A p) w = some b) (hg : good F C A N t (gRow F C p) (pA A p) b) : inv F C P t (stp F C t p b A) := by
  have hn := hF.n
  have hP60 := hP.1
  refine ⟨fun q hq => ?_, fun c hc => ?_⟩
  · by_cases e : q = p
    · subst e
      obtain ⟨⟨c, c1, c2, c3, c4⟩, ⟨k, k1, k2, k3, f, a, a1, a2, a3, a4, a5⟩, hs⟩ := hi.1 q hq
      have ec := pA_eq hF c1 c2
      rw [ec] at hb hg
      have hb2 := nbC_in hF hS c1 hw hb
      obtain ⟨e3, e4, e9⟩ := stp_349 (F := F) (C := C) (t := t) (p := q) (b := b) (A := A)
      have ek : (A 3 q).toNatClampNeg = k := by rw [k1, nI_clamp (by omega)]
      have hgr := gRow_lt hP hq
      have f1 : f ≤ 3600 := by rcases a5 with g | g <;> omega
      have fa : f + a ≤ t := by rw [a4] at h9; exact (nI_leI (by omega) (by omega)).mp h9
      have e78 := fun j f hf => stp_78 (F := F) (C := C) (t := t) (p := q) (b := b) (A := A) (f := f) (j := j) hf
      refine ⟨⟨b, hb2.1, e4, hb2.2, fun r hr => ?_⟩, ⟨k + 1, by rw [e3, k1, nI_1], ?_, fun j hj => ?_, t, a, a1, a2, a3, by rw [e9, a3, nI_add], Or.inr ⟨by omega, ?_, Nat.le_refl t, ?_⟩⟩, ?_⟩
      · rw [nu_nb hF hS hr c1 c3 hw hb]; exact c4 r hr
      · unfold nuP at k2 ⊢
        rw [pA_eq hF hb2.1 e4]
        rw [ec] at k2
        rcases nu_or hF hS hgr hb2.1 with g | ⟨d', hd', g⟩
        · exact absurd g hg.1.1
        · rcases nu_or hF hS hgr c1 with g2 | ⟨d, hd, g2⟩
          · have := hg.1.2
            rw [g, g2] at this
            exact absurd (Int32.lt_of_le_of_lt (nI_pos' (n := d') (by omega)) this) (by decide)
          · have := hg.1.2
            rw [g, g2] at this
            have := (nI_ltI (by omega) (by omega)).mp this
            rw [g, nI_clamp (by omega)]
            rw [g2, nI_clamp (by omega)] at k2
            omega
      · rw [e78 _ 7 (Or.inl rfl), e78 _ 8 (Or.inr rfl), ek]
        by_cases ej : j = k
        · subst ej
          rw [if_pos rfl, if_pos rfl, if_pos rfl, if_neg (by omega)]
          exact ⟨⟨t, Nat.le_refl t, rfl⟩, b, hb2.1, rfl⟩
        · rw [if_neg (by omega), if_neg (by omega)]
          exact k3 j (by omega)
      · rw [e78 _ 7 (Or.inl rfl), ek, if_pos (by omega), if_pos rfl]
      · rcases a5 with ⟨-, -, g⟩ | ⟨-, -, -, d, g, g'⟩
        · exact ⟨f, g, by omega⟩
        · exact ⟨d, g, by omega⟩
      · rcases stp_01 (F := F) (C := C) (t := t) (p := q) (b := b) (A := A) with ⟨g1, g2⟩ | ⟨g1, g2⟩
        · exact Or.inr ⟨Or.inl g1, t, Nat.le_refl t, g2⟩
        · rw [g1, g2]; exact hs
    · have hk := hi.1 p hp
      obtain ⟨-, ⟨k, k1, k2, -⟩, -⟩ := hk
      have ek : (A 3 p).toNatClampNeg = k := by rw [k1, nI_clamp (by omega)]
      refine (hi.1 q hq).same hn (stp_f e (by omega)) (stp_f e (by omega)) (stp_f e (by omega)) (stp_f e (by omega)) (stp_f e (by omega)) (fun j hj => ?_) (fun j hj => ?_)
      · rw [stp_78 (Or.inl rfl), ek, if_neg (by omega)]
      · rw [stp_78 (Or.inr rfl), ek, if_neg (by omega)]
  · rcases stp_5 (F := F) (C := C) (t := t) (p := p) (b := b) (A := A) (c := c) with g | g | g
    · exact Or.inl g
    · exact Or.inr ⟨p, by omega, g⟩
    · rw [g]; exact hi.2 c hc
theorem go1_f {z : Ct × (Nat → Int32)} {f : Nat} (hq : q ≠ p) (hf : f ≤ 4 ∨ f = 9) : (go1 F C t z p).1 f q = z.1 f q := by
  unfold go1
  cases tgt F C z.1 z.2 t (gRow F C p) (pA z.1 p) 4 with
  | none => rfl
  | some b => exact stp_f hq hf
theorem go1_inv {z : Ct × (Nat → Int32)} (hF : okF F) (hS : okS F C) (hP : okP F C P) (hi : inv F C P t z.1) (ht : t ≤ 3600) (hp : p < P) (h0 : z.1 0 p = 0) (h9 : z.1 9 p ≤ nI t) : inv F C P t (go1 F C t z p).1 := by
  unfold go1
  cases hb : tgt F C z.1 z.2 t (gRow F C p) (pA z.1 p) 4 with
  | none => exact hi
  | some b =>
    obtain ⟨w, hw, h1, h2⟩ := tgt_some 4 (Nat.le_refl 4) hb
    exact stp_inv hF hS hP hi ht hp h0 h9 hw h1 h2
theorem cand_f {A' : Ct} (h0 : A' 0 p = A 0 p) (h4 : A' 4 p = A 4 p) (h9 : A' 9 p = A 9 p) : cand F C A' t p ↔ cand F C A t p := by
  unfold cand nuP pA
  rw [h0, h4, h9]
theorem fold_inv (hF : okF F) (hS : okS F C) (hP : okP F C P) (ht : t ≤ 3600) : ∀ (l : List Nat) (z : Ct × (Nat → Int32)), l.Nodup → inv F C P t z.1 → (∀ p, p ∈ l → p < P ∧ cand F C z.1 t p) → inv F C P t (l.foldl (go1 F C t) z).1 := by
  intro l
  induction l with
  | nil => intro z _ hi _; exact hi
  | cons a l ih =>
    intro z hd hi hc
    obtain ⟨hd1, hd2⟩ := List.nodup_cons.mp hd
    obtain ⟨ha, hca⟩ := hc a (List.mem_cons_self ..)
    refine ih (go1 F C t z a) hd2 (go1_inv hF hS hP hi ht ha hca.1 hca.2.1) (fun p hp => ?_)
    have hpa : p ≠ a := fun e => hd1 (e ▸ hp)
    obtain ⟨h1, h2⟩ := hc p (List.mem_cons_of_mem _ hp)
    exact ⟨h1, (cand_f (go1_f hpa (by omega)) (go1_f hpa (by omega)) (go1_f hpa (by omega))).mpr h2⟩
theorem ord_nodup {i : Nat} {l : List Nat} (h : Ord F C A t i l) : l.Nodup :=
  List.Pairwise.imp (fun {a b} (hab : lx F C A a b) (e : a = b) => by subst e; exact lx_asym hab hab) h.1
/-- smoke -/
theorem ct_f {i f : Nat} (hq : i ≤ q) (hf : f ≤ 4 ∨ f = 9) : ctI C t A i f q = A f q := by
  induction i with
  | zero => rfl
  | succ i ih =>
    rw [ctI]
    by_cases h : ctI C t A i 0 i = 0 ∧ brd C (pA (ctI C t A i) i) t
    · rw [m_if_t h, st_q (show q ≠ i by omega), st_q (show q ≠ i by omega), st_k (by omega)]
      exact ih (by omega)
    · rw [m_if_f h]; exact ih (by omega)
theorem ct_inv (hF : okF F) (hi : inv F C P t A) {i : Nat} (hiP : i ≤ P) : inv F C P t (ctI C t A i) := by
  have hn := hF.n
  induction i with
  | zero => exact hi
  | succ i ih =>
    have ih := ih (by omega)
    rw [ctI]
    by_cases h : ctI C t A i 0 i = 0 ∧ brd C (pA (ctI C t A i) i) t
    · rw [m_if_t h]
      refine ⟨fun p hp => ?_, fun c hc => ?_⟩
      · by_cases e : p = i
        · subst e
          obtain ⟨g1, ⟨k, g2, g3, g4, g5⟩, g10⟩ := ih.1 p hp
          refine ⟨by simpa [st_r] using g1, ⟨k, by simpa [st_r] using g2, ?_, by simpa [st_r] using g4, by simpa [st_r] using g5⟩, Or.inr ⟨Or.inr (by simp [st_r]), t, Nat.le_refl t, by simp [st_r]⟩⟩
          unfold nuP pA at g3 ⊢
          simpa [st_r] using g3
        · refine (ih.1 p hp).same hn ?_ ?_ ?_ ?_ ?_ (fun j hj => ?_) (fun j hj => ?_) <;> simp [st_r, e]
      · rw [st_k (by omega), st_k (by omega), st_r, if_pos rfl]
        by_cases e : c = pA (ctI C t A i) i
        · rw [if_pos e]; exact Or.inl rfl
        · rw [if_neg e]; exact ih.2 c hc
    · rw [m_if_f h]; exact ih
theorem sec_inv (hF : okF F) (hS : okS F C) (hP : okP F C P) (hi : inv F C P t A) (ht : t + 1 ≤ 3600) : inv F C P (t + 1) (sec F C P (t + 1) A) := by
  have h1 := ct_inv (C := C) (t := t + 1) hF (hi.mono (Nat.le_succ t)) (Nat.le_refl P)
  have ho := ordL_ok (F := F) (C := C) (A := ctI C (t + 1) A P) (t := t + 1) P
  exact fold_inv hF hS hP ht _ _ (ord_nodup ho) h1 (fun p hp => (ho.2 p).mp hp)
theorem bgn_inv (hF : okF F) (hS : okS F C) (hP : okP F C P) : inv F C P 0 (bgn C) := by
  have hn := hF.n
  have hP60 := hP.1
  refine ⟨fun p hp => ?_, fun c hc => ?_⟩
  · obtain ⟨⟨c, c1, c2, c3, c4, c5⟩, ⟨a, a1, a2, a3⟩, ⟨d, d1, d2⟩, hh⟩ := hP.2.2.1 p hp
    have hs := s0_lt hF hP hp
    have e4 : bgn C 4 p = nI (s0 C p) := by rw [← hs.2.1]; simp [bgn]
    refine ⟨⟨s0 C p, hs.1, e4, hs.2.2, fun r _ => Iff.rfl⟩, ⟨0, by simp [bgn, nI_0], ?_, fun j hj => by omega, d, a, a1, a2, a3, ?_, Or.inl ⟨rfl, d1, d2⟩⟩, Or.inl ⟨by simp [bgn], by simp [bgn]⟩⟩
    · unfold nuP
      rw [pA_eq hF hs.1 e4]
      rcases nu_or hF hS (gRow_lt hP hp) hs.1 with g | ⟨x, hx, g⟩
      · rw [g, show (-1 : Int32).toNatClampNeg = 0 from rfl]; omega
      · rw [g, nI_clamp (by omega)]; omega
    · rw [← nI_add, ← d2, ← a3]; simp [bgn]
  · have e5 : bgn C 5 c = C 28 c := by simp [bgn]
    rw [e5]
    rcases hP.2.2.2 c hc with g | ⟨p, g1, g2, -⟩
    · exact Or.inl g
    · exact Or.inr ⟨p, by omega, g2⟩
end
end
section
/-! a second without a change, and the seconds behind it -/
def quiet (F : Fx) (C : Ct) (P t : Nat) (A : Ct) : Prop := (∀ p, p < P → A 0 p = 0 → ¬ brd C (pA A p) t) ∧ ∀ p, p < P → cand F C A t p → tgt F C A (fun _ => 0) t (gRow F C p) (pA A p) 4 = none
section
variable {F : Fx} {C A : Ct} {P t u : Nat} {N : Nat → Int32}
theorem tgt_none {r c : Nat} : ∀ d, d ≤ 4 → (tgt F C A N t r c d = none ↔ ∀ w b, 4 - d ≤ w → w < 4 → nbC C c w = some b → ¬ good F C A N t r c b) := by
  intro d
  induction d with
  | zero => intro _; exact ⟨fun _ w b h1 h2 => by omega, fun _ => rfl⟩
  | succ d ih =>
    intro hd
    have ih := ih (by omega)
    rw [tgt]
    have hs : ∀ w, 4 - (d + 1) ≤ w → w < 4 → w = 3 - d ∨ (4 - d ≤ w) := fun w h1 h2 => by omega
    cases hb : nbC C c (3 - d) with
    | none =>
      dsimp only
      rw [ih]
      exact ⟨fun h w b h1 h2 h3 => by
        rcases hs w h1 h2 with e | e
        · subst e; rw [hb] at h3; cases h3
        · exact h w b e h2 h3, fun h w b h1 h2 h3 => h w b (by omega) h2 h3⟩
    | some b' =>
      dsimp only
      by_cases g : good F C A N t r c b'
      · rw [m_if_t g]
        exact ⟨fun h => (by cases h), fun h => absurd g (h (3 - d) b' (by omega) (by omega) hb)⟩
      · rw [m_if_f g, ih]
        exact ⟨fun h w b h1 h2 h3 => by
          rcases hs w h1 h2 with e | e
          · subst e; rw [hb] at h3; cases h3; exact g
          · exact h w b e h2 h3, fun h w b h1 h2 h3 => h w b (by omega) h2 h3⟩
theorem ct_quiet (h : ∀ p, p < P → A 0 p = 0 → ¬ brd C (pA A p) t) : ∀ i, i ≤ P → ctI C t A i = A := by
  intro i
  induction i with
  | zero => intro _; rfl
  | succ i ih =>
    intro hi
    rw [ctI, ih (by omega)]
    exact m_if_f (fun q => h i (by omega) q.1 q.2)
theorem fold_quiet : ∀ (l : List Nat), (∀ p, p ∈ l → tgt F C A N t (gRow F C p) (pA A p) 4 = none) → l.foldl (go1 F C t) (A, N) = (A, N) := by
  intro l
  induction l with
  | nil => intro _; rfl
  | cons a l ih =>
    intro h
    have ha : go1 F C t (A, N) a = (A, N) := by
      unfold go1
      rw [h a (List.mem_cons_self ..)]
    rw [List.foldl_cons, ha]
    exact ih (fun p hp => h p (List.mem_cons_of_mem _ hp))
theorem sec_quiet (h : quiet F C P t A) : sec F C P t A = A := by
  unfold sec
  rw [ct_quiet h.1 P (Nat.le_refl P), fold_quiet _ (fun p hp => by
    have := ((ordL_ok P).2 p).mp hp
    exact h.2 p this.1 this.2)]
theorem brd_mono {c : Nat} (hu : u ≤ 3600) (h : t ≤ u) (hb : brd C c t) : brd C c u := ⟨hb.1, Int32.le_trans hb.2 (nI_le h (by omega))⟩
theorem quiet_skip (h : quiet F C P t A) (htu : t ≤ u) (hu : u ≤ 3600) (h9 : ∀ p, p < P → A 0 p = 0 → A 9 p ≤ nI t ∨ nI u < A 9 p) (h4 : ∀ p, p < P → A 0 p = 0 → C 4 (pA A p) ≤ nI t ∨ nI u < C 4 (pA A p)) : quiet F C P u A := by
  refine ⟨fun p hp h0 hb => ?_, fun p hp hc => ?_⟩
  · rcases h4 p hp h0 with q | q
    · exact h.1 p hp h0 ⟨hb.1, q⟩
    · exact i32_irr _ (Int32.lt_of_lt_of_le q hb.2)
  · have hct : cand F C A t p := by
      refine ⟨hc.1, ?_, hc.2.2⟩
      rcases h9 p hp hc.1 with q | q
      · exact q
      · exact absurd (Int32.lt_of_lt_of_le q hc.2.1) (i32_irr _)
    have hn := h.2 p hp hct
    rw [tgt_none 4 (Nat.le_refl 4)] at hn ⊢
    intro w b h1 h2 h3 hg
    refine hn w b h1 h2 h3 ⟨hg.1, hg.2.1, fun q => hg.2.2.1 (brd_mono hu htu q), hg.2.2.2⟩
theorem run_skip : ∀ (k d t : Nat), k ≤ d → waits P A → (∀ u, t < u → u ≤ t + k → quiet F C P u A) → runF F C P d t A = runF F C P (d - k) (t + k) A := by
  intro k
  induction k with
  | zero => intro d t _ _ _; rfl
  | succ k ih =>
    intro d t hk hw h
    obtain ⟨d, rfl⟩ : ∃ d', d = d' + 1 := ⟨d - 1, by omega⟩
    rw [runF, m_if_t hw, sec_quiet (h (t + 1) (by omega) (by omega)), ih d (t + 1) (by omega) hw (fun u h1 h2 => h u (by omega) (by omega))]
    rw [show d + 1 - (k + 1) = d - k by omega, show t + 1 + k = t + (k + 1) by omega]
end
end
section
/-! the class's run: a step -/
def ciC (C : Ct) (b : Nat) (t : Int32) : Int32 := if C 162 b = t then C 161 b else 0
def mvC (C : Ct) (p b k c t : Nat) : Ct := st (st (st (st (st (st (st (st (st C 161 b (ciC C b (nI t) + 1)) 162 b (nI t)) 34 b (C 34 b + 1)) 160 c (-1)) 35 p (nI b)) 37 p (nI t + C 25 p)) (39 + p) k (nI t)) (100 + p) k (nI b)) 33 p (nI k + 1)
def endC (C : Ct) (p : Nat) (how t : Int32) : Ct := st (st (st C 30 p how) 31 p t) 29 18 (C 29 18 - 1)
section
variable {F : Fx} {C : Ct} {J : Nat → Int64} {G : Ex} {Q : mE → mH → Prop} {p b k c t : Nat}
theorem Y_end {how s : Int32} (hF : okF F) (hp60 : p < 60) : Yd y_Flight_end [.ref 29, .int (nI p), .int how, .int s] (hp F C J G) (.inl none) (hp F (endC C p how s) J G) := by
  refine Yd_of (fun Q kk => ?_)
  unfold Y
  repeat (refine X_n rfl rfl rfl ?_)
  refine X_sa rfl rfl rfl hF (show p < 60 from hp60) ?_
  repeat (refine X_n rfl rfl rfl ?_)
  refine X_sa rfl rfl rfl hF (show p < 60 from hp60) ?_
  repeat (refine X_n rfl rfl rfl ?_)
  refine X_s rfl rfl ?_
  refine X_h (hp_f29_18 rfl) ?_
  repeat (refine X_n rfl rfl rfl ?_)
  exact X_r rfl rfl rfl rfl kk
theorem Y_cameIn {s : Int32} (hF : okF F) (hb : b < F.1 * F.2.1) : Yd y_Flight_cameIn [.ref 29, .int (nI b), .int s] (hp F C J G) (.inl (some (.int (ciC C b s)))) (hp F C J G) := by
  refine Yd_of (fun Q kk => ?_)
  unfold Y
  unfold ciC at kk
  repeat (refine X_n rfl rfl rfl ?_)
  refine X_la rfl rfl rfl hF hb ?_
  repeat (refine X_n rfl rfl rfl ?_)
  refine X_b rfl rfl rfl (fun q => ?_) (fun q => ?_)
  · rw [if_neg q] at kk
    repeat (refine X_n rfl rfl rfl ?_)
    exact X_r rfl rfl rfl rfl kk
  · have q : C 162 b = s := Classical.not_not.mp q
    rw [if_pos q] at kk
    repeat (refine X_n rfl rfl rfl ?_)
    refine X_la rfl rfl rfl hF hb ?_
    repeat (refine X_n rfl rfl rfl ?_)
    exact X_r rfl rfl rfl rfl kk
theorem Y_mayEnter (hF : okF F) (hb : b < F.1 * F.2.1) {s : Int32} : Yd y_Flight_mayEnter [.ref 29, .int (nI b), .int s] (hp F C J G) (.inl (some (.int (bI (decide (C 160 b = -1 ∧ ¬ (¬ C 4 b = -1 ∧ C 4 b ≤ s) ∧ (¬ (C 2 b = 2 ∨ C 2 b = 3) ∨ ciC C b s < C 3 b))))))) (hp F C J G) := by
  refine Yd_of (fun Q kk => ?_)
  unfold Y
  repeat (refine X_n rfl rfl rfl ?_)
  refine X_la rfl rfl rfl hF hb ?_
  repeat (refine X_n rfl rfl rfl ?_)
  refine X_b rfl rfl rfl (fun q => ?_) (fun q => ?_)
  · repeat (refine X_n rfl rfl rfl ?_)
    rw [decide_eq_false (fun h => q h.1)] at kk
    exact X_r rfl rfl rfl rfl kk
  · have q : C 160 b = -1 := Classical.not_not.mp q
    repeat (refine X_n rfl rfl rfl ?_)
    refine X_cd rfl rfl rfl rfl (Y_isBarred hF hb) ?_
    refine X_z rfl (fun r => ?_) (fun r => ?_)
    · repeat (refine X_n rfl rfl rfl ?_)
      refine X_cd rfl rfl rfl rfl (Y_hasRate hF hb) ?_
      refine X_z rfl (fun s => ?_) (fun s => ?_)
      · rw [decide_eq_true ⟨q, r, Or.inl s⟩] at kk
        repeat (refine X_n rfl rfl rfl ?_)
        exact X_r rfl rfl rfl rfl kk
      · repeat (refine X_n rfl rfl rfl ?_)
        refine X_cd rfl rfl rfl rfl (Y_cameIn hF hb) ?_
        repeat (refine X_n rfl rfl rfl ?_)
        refine X_la rfl rfl rfl hF hb ?_
        refine X_b rfl rfl rfl (fun w => ?_) (fun w => ?_)
        · rw [decide_eq_false (fun h => by
            rcases h.2.2 with g | g
            · exact g s
            · exact Int32.not_lt.mpr w g)] at kk
          repeat (refine X_n rfl rfl rfl ?_)
          exact X_r rfl rfl rfl rfl kk
        · rw [decide_eq_true ⟨q, r, Or.inr (Int32.not_le.mp w)⟩] at kk
          repeat (refine X_n rfl rfl rfl ?_)
          exact X_r rfl rfl rfl rfl kk
    · rw [decide_eq_false (fun h => h.2.1 r)] at kk
      repeat (refine X_n rfl rfl rfl ?_)
      exact X_r rfl rfl rfl rfl kk
theorem Y_move (hF : okF F) (hp60 : p < 60) (hb : b < F.1 * F.2.1) (hc : c < F.1 * F.2.1) (hk : k < F.1 * F.2.1) (e1 : C 35 p = nI c) (e2 : C 33 p = nI k) : Yd y_Flight_move [.ref 29, .int (nI p), .int (nI b), .int (nI t)] (hp F C J G) (.inl none) (hp F (mvC C p b k c t) J G) := by
  refine Yd_of (fun Q kk => ?_)
  have hn := hF.n
  unfold Y
  repeat (refine X_n rfl rfl rfl ?_)
  refine X_cd rfl rfl rfl rfl (Y_cameIn hF hb) ?_
  repeat (refine X_n rfl rfl rfl ?_)
  refine X_sa rfl rfl rfl hF hb ?_
  repeat (refine X_n rfl rfl rfl ?_)
  refine X_sa rfl rfl rfl hF hb ?_
  repeat (refine X_n rfl rfl rfl ?_)
  refine X_la rfl rfl rfl hF hb ?_
  repeat (refine X_n rfl rfl rfl ?_)
  refine X_sa rfl rfl rfl hF hb ?_
  repeat (refine X_n rfl rfl rfl ?_)
  refine X_la rfl rfl rfl hF (show p < 60 from hp60) ?_
  repeat (refine X_n rfl rfl rfl ?_)
  refine X_sa (k := c) rfl rfl e1 hF hc ?_
  repeat (refine X_n rfl rfl rfl ?_)
  refine X_sa rfl rfl rfl hF (show p < 60 from hp60) ?_
  repeat (refine X_n rfl rfl rfl ?_)
  refine X_la rfl rfl rfl hF (show p < 60 from hp60) ?_
  repeat (refine X_n rfl rfl rfl ?_)
  refine X_sa rfl rfl rfl hF (show p < 60 from hp60) ?_
  repeat (refine X_n rfl rfl rfl ?_)
  refine X_la rfl rfl rfl hF (show p < 60 from hp60) ?_
  refine X_top (w := nI k) e2 ?_
  repeat (refine X_n rfl rfl rfl ?_)
  refine X_bf rfl rfl rfl (nI_ge hk (by omega)) ?_
  repeat (refine X_n rfl rfl rfl ?_)
  refine X_ln rfl rfl rfl rfl rfl hp60 (show 60 < 2 ^ 31 by omega) ?_
  repeat (refine X_n rfl rfl rfl ?_)
  refine X_ti rfl (hp_at (kd_ss p hp60).1 (ln_0 (kd_ss p hp60).2)) (show 39 + p < 1000000000 by omega) rfl hk (by omega) ?_
  rw [hp_st (kd_ss p hp60).1 (ln_0 (kd_ss p hp60).2)]
  repeat (refine X_n rfl rfl rfl ?_)
  refine X_ln rfl rfl rfl rfl rfl hp60 (show 60 < 2 ^ 31 by omega) ?_
  repeat (refine X_n rfl rfl rfl ?_)
  refine X_ti rfl (hp_at (kd_sc p hp60).1 (ln_0 (kd_sc p hp60).2)) (show 100 + p < 1000000000 by omega) rfl hk (by omega) ?_
  rw [hp_st (kd_sc p hp60).1 (ln_0 (kd_sc p hp60).2)]
  repeat (refine X_n rfl rfl rfl ?_)
  refine X_sa rfl rfl rfl hF (show p < 60 from hp60) ?_
  exact X_r rfl rfl rfl rfl kk
end
end
section
/-! the class's contents and the run's state -/
def cntW (A : Ct) : Nat → Nat
  | 0 => 0
  | i + 1 => cntW A i + (if A 0 i = 0 then 1 else 0)
def repP (F : Fx) (C0 A C : Ct) (p : Nat) : Prop := C 30 p = A 0 p ∧ C 31 p = A 1 p ∧ C 32 p = A 2 p ∧ C 33 p = A 3 p ∧ C 35 p = A 4 p ∧ C 37 p = A 9 p ∧ C 36 p + 1 = nI (gRow F C0 p) ∧ ∀ k, k < (A 3 p).toNatClampNeg → C (39 + p) k = A 7 (600 * p + k) ∧ C (100 + p) k = A 8 (600 * p + k)
def repC (F : Fx) (C0 : Ct) (P t : Nat) (N : Nat → Int32) (A C : Ct) : Prop :=
  (∀ k, k < 29 ∨ 163 < k → C k = C0 k) ∧ (∀ p, p < P → repP F C0 A C p) ∧ (∀ c, c < F.1 * F.2.1 → C 160 c = A 5 c ∧ C 34 c = A 6 c) ∧ C 29 18 = nI (cntW A P) ∧
  ∀ c, c < F.1 * F.2.1 → N c = ciC C c (nI t) ∧ ∃ s, s ≤ t ∧ C 162 c = nI s
/-- the rows that are gone by are found -/
def rwC (F : Fx) (C0 : Ct) (P : Nat) : Prop := ∀ p, p < P → ∀ c, c < F.1 * F.2.1 → C0 (12 + gRow F C0 p) c = nuC F C0 (gRow F C0 p) c ∧ C0 (12 + hRow C0 p) c = nuC F C0 (hRow C0 p) c
section
variable {F : Fx} {C0 A C : Ct} {P t p b k c : Nat} {N : Nat → Int32}
theorem cntW_le {A' : Ct} (h : ∀ q, q < P → A' 0 q = A 0 q) : cntW A' P = cntW A P := by
  induction P with
  | zero => rfl
  | succ P ih => rw [cntW, cntW, ih (fun q hq => h q (by omega)), h P (by omega)]
theorem cntW_end {v : Int32} (hv : ¬ v = 0) (hp : p < P) (h0 : A 0 p = 0) : cntW (st A 0 p v) P + 1 = cntW A P := by
  induction P with
  | zero => omega
  | succ P ih =>
    rw [cntW, cntW]
    by_cases e : p = P
    · subst e
      rw [st_s, if_neg hv, if_pos h0, cntW_le (fun q hq => st_i (by omega))]
    · have := ih (by omega)
      rw [st_i (Ne.symm e)]
      omega
theorem cntW_pos : 0 < cntW A P ↔ waits P A := by
  induction P with
  | zero => exact ⟨fun h => absurd h (by simp [cntW]), fun ⟨p, h, _⟩ => by omega⟩
  | succ P ih =>
    rw [cntW]
    by_cases e : A 0 P = 0
    · rw [if_pos e]; exact ⟨fun _ => ⟨P, by omega, e⟩, fun _ => by omega⟩
    · rw [if_neg e, Nat.add_zero, ih]
      exact ⟨fun ⟨p, h, g⟩ => ⟨p, by omega, g⟩, fun ⟨p, h, g⟩ => ⟨p, by
        by_cases q : p = P
        · subst q; exact absurd g e
        · omega, g⟩⟩
theorem cntW_le' : cntW A P ≤ P := by
  induction P with
  | zero => exact Nat.le_refl 0
  | succ P ih => rw [cntW]; split <;> omega
theorem ne39 {q : Nat} (h : q < 60) : ∀ m, m < 39 ∨ 98 < m → (39 + q = m) = False := fun m hm => by
  rw [eq_iff_iff]; exact ⟨fun e => by omega, fun e => e.elim⟩
theorem ne100 {q : Nat} (h : q < 60) : ∀ m, m < 100 ∨ 159 < m → (100 + q = m) = False := fun m hm => by
  rw [eq_iff_iff]; exact ⟨fun e => by omega, fun e => e.elim⟩
theorem ne39' {q : Nat} (h : q < 60) : ∀ m, m < 39 ∨ 98 < m → (m = 39 + q) = False := fun m hm => by
  rw [eq_iff_iff]; exact ⟨fun e => by omega, fun e => e.elim⟩
theorem ne100' {q : Nat} (h : q < 60) : ∀ m, m < 100 ∨ 159 < m → (m = 100 + q) = False := fun m hm => by
  rw [eq_iff_iff]; exact ⟨fun e => by omega, fun e => e.elim⟩
/-- someone ends -/
theorem repC.fin {how : Int32} (h : repC F C0 P t N A C) (hh : ¬ how = 0) (hp : p < P) (h0 : A 0 p = 0) (hP : P ≤ 60) : repC F C0 P t N (st (st A 0 p how) 1 p (nI t)) (endC C p how (nI t)) := by
  obtain ⟨h1, h2, h3, h4, h5⟩ := h
  refine ⟨fun k hk => ?_, fun q hq => ?_, fun c hc => ?_, ?_, fun c hc => ?_⟩
  · rw [← h1 k hk]; unfold endC; rw [st_f (by omega), st_f (by omega), st_f (by omega)]
  · have := h2 q hq
    have e39 := ne39 (q := q) (by omega)
    have e100 := ne100 (q := q) (by omega)
    unfold repP endC at *
    by_cases e : q = p
    · subst e; simpa [st_r, e39, e100] using this.2.2
    · simpa [st_r, e, e39, e100] using this
  · simpa [endC, st_r] using h3 c hc
  · have e : cntW (st (st A 0 p how) 1 p (nI t)) P = cntW (st A 0 p how) P := cntW_le (fun q _ => st_k (by omega))
    have := cntW_end hh hp h0
    rw [e]
    show st (st (st C 30 p how) 31 p (nI t)) 29 18 (C 29 18 - 1) 29 18 = _
    rw [st_s, h4, ← this, nI_pred]
  · simpa [endC, ciC, st_r] using h5 c hc
/-- a cell is taken or left -/
theorem repC.cell {v : Int32} (h : repC F C0 P t N A C) (hP : P ≤ 60) : repC F C0 P t N (st A 5 b v) (st C 160 b v) := by
  obtain ⟨h1, h2, h3, h4, h5⟩ := h
  refine ⟨fun k hk => ?_, fun q hq => ?_, fun c hc => ?_, ?_, fun c hc => ?_⟩
  · rw [← h1 k hk, st_f (by omega)]
  · have := h2 q hq
    have e39 := ne39 (q := q) (by omega)
    have e100 := ne100 (q := q) (by omega)
    unfold repP at *
    simpa [st_r, e39, e100] using this
  · have := h3 c hc
    by_cases e : c = b
    · subst e; simpa [st_r] using this.2
    · simpa [st_r, e] using this
  · rw [cntW_le (A := A) (fun q _ => st_k (by omega)), st_k (by omega)]; exact h4
  · simpa [ciC, st_r] using h5 c hc
/-- a step -/
theorem repC_mv (h : repC F C0 P t N A C) (hi : inv F C0 P t A) (hF : okF F) (hP : P ≤ 60) (hp : p < P) (hc : A 4 p = nI c) (hcn : c < F.1 * F.2.1) (hk : A 3 p = nI k) (hkn : k < F.1 * F.2.1) : repC F C0 P t (upd N b (N b + 1)) (mv C0 t p b A) (mvC C p b k c t) := by
  have hn := hF.n
  obtain ⟨h1, h2, h3, h4, h5⟩ := h
  have ek : (A 3 p).toNatClampNeg = k := by rw [hk, nI_clamp (by omega)]
  have ec : pA A p = c := pA_eq hF hcn hc
  refine ⟨fun k hk => ?_, fun q hq => ?_, fun c hc => ?_, ?_, fun c hc => ?_⟩
  · rw [← h1 k hk]
    unfold mvC
    rw [st_f (by omega), st_f (by omega), st_f (by omega), st_f (by omega), st_f (by omega), st_f (by omega), st_f (by omega), st_f (by omega), st_f (by omega)]
  · obtain ⟨g0, g1, g2, g3, g4, g5, g6, g7⟩ := h2 q hq
    have e39 := ne39 (q := q) (by omega)
    have e100 := ne100 (q := q) (by omega)
    have f39 := ne39' (q := p) (by omega)
    have f100 := ne100' (q := p) (by omega)
    have x1 : (39 + q = 100 + p) = False := by rw [eq_iff_iff]; exact ⟨fun e => by omega, fun e => e.elim⟩
    have x2 : (100 + q = 39 + p) = False := by rw [eq_iff_iff]; exact ⟨fun e => by omega, fun e => e.elim⟩
    have hC25 : C 25 = C0 25 := h1 25 (by omega)
    unfold repP mvC mv
    rw [ek, ec]
    by_cases e : q = p
    · subst e
      rw [hk, nI_1]
      refine ⟨by simpa [st_r, f39, f100] using g0, by simpa [st_r, f39, f100] using g1, by simpa [st_r, f39, f100] using g2, by simp [st_r], by simp [st_r, f39, f100], by simp [st_r, f39, f100, hC25], by simpa [st_r, f39, f100] using g6, fun j hj => ?_⟩
      have hj : j < k + 1 := by
        have : (st (st (st (st (st (st (st A 5 c (-1)) 6 b (A 6 b + 1)) 7 (600 * q + k) (nI t)) 8 (600 * q + k) (nI b)) 3 q (nI (k + 1))) 9 q (nI t + C0 25 q)) 4 q (nI b) 3 q) = nI (k + 1) := by simp [st_r]
        rw [this, nI_clamp (by omega)] at hj
        exact hj
      by_cases ej : j = k
      · subst ej; simp [st_r, e39, e100, f39, f100, x1, x2]
      · have := g7 j (by rw [hk, nI_clamp (by omega)]; omega)
        simpa [st_r, e39, e100, f39, f100, x1, x2, ej] using this
    · have y1 : (39 + q = 39 + p) = False := by rw [eq_iff_iff]; exact ⟨fun e => by omega, fun e => e.elim⟩
      have y2 : (100 + q = 100 + p) = False := by rw [eq_iff_iff]; exact ⟨fun e => by omega, fun e => e.elim⟩
      refine ⟨by simpa [st_r, f39, f100] using g0, by simpa [st_r, f39, f100] using g1, by simpa [st_r, f39, f100] using g2, by simpa [st_r, f39, f100, e] using g3, by simpa [st_r, f39, f100, e] using g4, by simpa [st_r, f39, f100, e] using g5, by simpa [st_r, f39, f100] using g6, fun j hj => ?_⟩
      obtain ⟨-, ⟨kq, kq1, kq2, -⟩, -⟩ := hi.1 q hq
      have hj : j < (A 3 q).toNatClampNeg := by simpa [st_r, e] using hj
      have hjn : j < 576 := by rw [kq1, nI_clamp (by omega)] at hj; omega
      have z1 : (600 * q + j = 600 * p + k) = False := by rw [eq_iff_iff]; exact ⟨fun e => by omega, fun e => e.elim⟩
      have := g7 j hj
      simpa [st_r, e39, e100, f39, f100, x1, x2, e, z1] using this
  · have := h3 c hc
    have f39 := ne39' (q := p) (by omega)
    have f100 := ne100' (q := p) (by omega)
    unfold mvC mv
    rw [ec]
    refine ⟨?_, ?_⟩
    · simp [st_r, f39, f100, this.1]
    · by_cases e : c = b
      · subst e; simp [st_r, f39, f100, this.2]
      · simpa [st_r, f39, f100, e] using this.2
  · have f39 := ne39' (q := p) (by omega)
    have f100 := ne100' (q := p) (by omega)
    have e : cntW (mv C0 t p b A) P = cntW A P := cntW_le (fun q _ => by simp [mv, st_r])
    rw [e, ← h4]
    simp [mvC, st_r, f39, f100]
  · have f39 := ne39' (q := p) (by omega)
    have f100 := ne100' (q := p) (by omega)
    obtain ⟨g1, s, g2, g3⟩ := h5 c hc
    unfold mvC ciC upd
    unfold ciC at g1
    by_cases e : c = b
    · subst e
      refine ⟨?_, t, Nat.le_refl t, by simp [st_r, f39, f100]⟩
      simp [st_r, f39, f100, g1]
    · refine ⟨?_, s, g2, by simpa [st_r, f39, f100, e] using g3⟩
      simpa [st_r, f39, f100, e] using g1
end
end
section
/-! the class's run: a step, held against the run's state -/
section
variable {F : Fx} {C0 A C : Ct} {P t p b k c : Nat} {N : Nat → Int32} {J : Nat → Int64} {G : Ex} {Q : mE → mH → Prop}
theorem repC.ex {v : Int32} (h : repC F C0 P t N A C) (hP : P ≤ 60) : repC F C0 P t N (st A 2 p v) (st C 32 p v) := by
  obtain ⟨h1, h2, h3, h4, h5⟩ := h
  refine ⟨fun k hk => ?_, fun q hq => ?_, fun c hc => ?_, ?_, fun c hc => ?_⟩
  · rw [← h1 k hk, st_f (by omega)]
  · obtain ⟨g0, g1, g2, g3⟩ := h2 q hq
    have e39 := ne39 (q := q) (by omega)
    have e100 := ne100 (q := q) (by omega)
    unfold repP at *
    refine ⟨by simpa [st_r] using g0, by simpa [st_r] using g1, ?_, by simpa [st_r, e39, e100] using g3⟩
    by_cases e : q = p
    · subst e; simp [st_r]
    · simpa [st_r, e] using g2
  · simpa [st_r] using h3 c hc
  · rw [cntW_le (A := A) (fun q _ => st_k (by omega)), st_k (by omega)]; exact h4
  · simpa [ciC, st_r] using h5 c hc
theorem st_cm {k i k' i' : Nat} {v v' : Int32} (h : k ≠ k') : st (st A k i v) k' i' v' = st (st A k' i' v') k i v := by
  funext x
  funext j
  simp only [st_r]
  by_cases e : x = k'
  · subst e
    simp [Ne.symm h]
  · by_cases e2 : x = k
    · subst e2; simp [h]
    · simp [e, e2]
theorem repC_out (h : repC F C0 P t N A C) (hi : inv F C0 P t A) (hF : okF F) (hP : P ≤ 60) (hp : p < P) (h0 : A 0 p = 0) (hc : A 4 p = nI c) (hcn : c < F.1 * F.2.1) (hk : A 3 p = nI k) (hkn : k < F.1 * F.2.1) (ho : nuC F C0 (gRow F C0 p) b = 0) : repC F C0 P t (upd N b (N b + 1)) (stp F C0 t p b A) (endC (st (mvC C p b k c t) 32 p (C0 5 b)) p 1 (nI t)) := by
  have h2 := ((repC_mv (b := b) h hi hF hP hp hc hcn hk hkn).ex (p := p) (v := C0 5 b) hP).fin (p := p) (how := 1) (by decide) hp (by simpa [mv, st_r] using h0) hP
  unfold stp
  rw [m_if_t ho, st_cm (show (1 : Nat) ≠ 2 by omega), st_cm (show (0 : Nat) ≠ 2 by omega)]
  exact h2
theorem repC_stay (h : repC F C0 P t N A C) (hi : inv F C0 P t A) (hF : okF F) (hP : P ≤ 60) (hp : p < P) (hc : A 4 p = nI c) (hcn : c < F.1 * F.2.1) (hk : A 3 p = nI k) (hkn : k < F.1 * F.2.1) (ho : ¬ nuC F C0 (gRow F C0 p) b = 0) : repC F C0 P t (upd N b (N b + 1)) (stp F C0 t p b A) (st (mvC C p b k c t) 160 b (nI p)) := by
  have h2 := (repC_mv (b := b) h hi hF hP hp hc hcn hk hkn).cell (b := b) (v := nI p) hP
  unfold stp
  rw [m_if_f ho]
  exact h2
theorem repC.nb (h : repC F C0 P t N A C) (c w : Nat) : opB C c w = opB C0 c w := by
  unfold opB; rw [h.1 9 (by omega), h.1 2 (by omega)]
theorem repC.B (h : repC F C0 P t N A C) (hB : okB F C0) : okB F C := by
  unfold okB; rw [h.1 9 (by omega)]; exact hB
theorem Y_stepOne_loop (hF : okF F) (hS : okS F C0) (hP : okP F C0 P) (hR : rwC F C0 P) (hr : repC F C0 P t N A C) (hi : inv F C0 P t A) (hpP : p < P) (h0 : A 0 p = 0) (hc : A 4 p = nI c) (hcn : c < F.1 * F.2.1) (hk : A 3 p = nI k) (hkn : k < F.1 * F.2.1)
    (kn : tgt F C0 A N t (gRow F C0 p) c 4 = none → Q (.inl (some (.int 0))) (hp F C J G))
    (ky : ∀ b C', tgt F C0 A N t (gRow F C0 p) c 4 = some b → repC F C0 P t (upd N b (N b + 1)) (stp F C0 t p b A) C' → C' 163 = C 163 → Q (.inl (some (.int 1))) (hp F C' J G)) :
    ∀ d x6, d ≤ 4 → tgt F C0 A N t (gRow F C0 p) c 4 = tgt F C0 A N t (gRow F C0 p) c d → X y_Flight_stepOne 25 [some (.ref 29), some (.int (nI p)), some (.int (nI t)), some (.ref (12 + gRow F C0 p)), some (.int (nI c)), some (.int (nI (4 - d))), x6] [] (hp F C J G) Q := by
  have hn := hF.n
  have hP60 := hP.1
  have hg9 := gRow_lt hP hpP
  have hrow : ∀ x, x < F.1 * F.2.1 → C (12 + gRow F C0 p) x = nuC F C0 (gRow F C0 p) x := fun x hx => by
    rw [hr.1 _ (by omega)]; exact (hR p hpP x hx).1
  have hat : ∀ (D : Ct), (hp F D J G).1 (12 + gRow F C0 p) = mI (F.1 * F.2.1) (D (12 + gRow F C0 p)) := fun D => hp_at (kd_row _ hg9).1 (ln_0 (kd_row _ hg9).2)
  intro d
  induction d with
  | zero =>
    intro x6 _ e
    repeat (refine X_n rfl rfl rfl ?_)
    refine X_bt rfl rfl rfl (Int32.le_refl _) ?_
    repeat (refine X_n rfl rfl rfl ?_)
    exact X_r rfl rfl rfl rfl (kn (e.trans rfl))
  | succ d ih =>
    intro x6 hd e
    rw [show 4 - (d + 1) = 3 - d by omega]
    have nx : tgt F C0 A N t (gRow F C0 p) c (d + 1) = tgt F C0 A N t (gRow F C0 p) c d → ∀ x6, X y_Flight_stepOne 130 [some (.ref 29), some (.int (nI p)), some (.int (nI t)), some (.ref (12 + gRow F C0 p)), some (.int (nI c)), some (.int (nI (3 - d))), x6] [] (hp F C J G) Q := by
      intro e2 x6
      iterate 2 (refine X_n rfl rfl rfl ?_)
      rw [nI_1', show 3 - d + 1 = 4 - d by omega]
      exact ih x6 (by omega) (e.trans e2)
    repeat (refine X_n rfl rfl rfl ?_)
    refine X_bf rfl rfl rfl (show ¬ nI 4 ≤ nI (3 - d) from nI_ge (by omega) (by omega)) ?_
    repeat (refine X_n rfl rfl rfl ?_)
    refine X_cd rfl rfl rfl rfl (Y_openBeside hF (hr.B hS.1) hcn (show 3 - d < 4 by omega)) ?_
    rw [hr.nb]
    rcases opB_cases hn hS.1 hcn (show 3 - d < 4 by omega) with ⟨e1, e2⟩ | ⟨b, hb, e1, e2, hbo, -⟩
    · rw [e1]
      repeat (refine X_n rfl rfl rfl ?_)
      refine X_bt rfl rfl rfl rfl ?_
      refine nx ?_ _
      rw [tgt, e2]
    · rw [e1]
      have hg : ¬ good F C0 A N t (gRow F C0 p) c b → tgt F C0 A N t (gRow F C0 p) c (d + 1) = tgt F C0 A N t (gRow F C0 p) c d := fun q => by rw [tgt, e2]; exact m_if_f q
      repeat (refine X_n rfl rfl rfl ?_)
      refine X_bf rfl rfl rfl (nI_nm1 (by omega)) ?_
      repeat (refine X_n rfl rfl rfl ?_)
      refine X_li rfl (hat C) rfl hb (by omega) ?_
      rw [hrow b hb]
      repeat (refine X_n rfl rfl rfl ?_)
      refine X_b rfl rfl rfl (fun q1 => ?_) (fun q1 => ?_)
      · exact nx (hg (fun g => g.1.1 q1)) _
      repeat (refine X_n rfl rfl rfl ?_)
      refine X_li rfl (hat C) rfl hb (by omega) ?_
      rw [hrow b hb]
      repeat (refine X_n rfl rfl rfl ?_)
      refine X_li rfl (hat C) rfl hcn (by omega) ?_
      rw [hrow c hcn]
      refine X_b rfl rfl rfl (fun q2 => ?_) (fun q2 => ?_)
      · exact nx (hg (fun g => Int32.not_lt.mpr q2 g.1.2)) _
      have q2 := Int32.not_le.mp q2
      repeat (refine X_n rfl rfl rfl ?_)
      refine X_cd rfl rfl rfl rfl (Y_mayEnter hF hb) ?_
      refine X_z rfl (fun q3 => ?_) (fun q3 => ?_)
      · refine nx (hg (fun g => q3 ?_)) _
        obtain ⟨g1, g2, g3⟩ := g.2
        refine ⟨by rw [(hr.2.2.1 b hb).1]; exact g1, by rw [hr.1 4 (by omega)]; exact g2, ?_⟩
        rw [hr.1 2 (by omega), hr.1 3 (by omega), ← (hr.2.2.2.2 b hb).1]; exact g3
      · have hgood : good F C0 A N t (gRow F C0 p) c b := by
          obtain ⟨g1, g2, g3⟩ := q3
          refine ⟨⟨q1, q2⟩, by rw [← (hr.2.2.1 b hb).1]; exact g1, by rw [hr.1 4 (by omega)] at g2; exact g2, ?_⟩
          rw [hr.1 2 (by omega), hr.1 3 (by omega), ← (hr.2.2.2.2 b hb).1] at g3; exact g3
        have ht : tgt F C0 A N t (gRow F C0 p) c 4 = some b := by rw [e, tgt, e2]; exact m_if_t hgood
        obtain ⟨g0, g1, g2, g3, g4, g5, g6, g7⟩ := hr.2.1 p hpP
        repeat (refine X_n rfl rfl rfl ?_)
        refine X_cd rfl rfl rfl rfl (Y_move hF (by omega) hb hcn hkn (g4.trans hc) (g3.trans hk)) ?_
        repeat (refine X_n rfl rfl rfl ?_)
        refine X_li rfl (hat _) rfl hb (by omega) ?_
        have hm : mvC C p b k c t (12 + gRow F C0 p) b = nuC F C0 (gRow F C0 p) b := by
          rw [← hrow b hb]
          unfold mvC
          rw [st_k (by omega), st_k (by omega), st_k (by omega), st_k (by omega), st_k (by omega), st_k (by omega), st_k (by omega), st_k (by omega), st_k (by omega)]
        rw [hm]
        have h5 : mvC C p b k c t 5 b = C0 5 b := by
          rw [← hr.1 5 (by omega)]
          unfold mvC
          rw [st_k (by omega), st_k (by omega), st_k (by omega), st_k (by omega), st_k (by omega), st_k (by omega), st_k (by omega), st_k (by omega), st_k (by omega)]
        have h163 : mvC C p b k c t 163 = C 163 := by
          unfold mvC
          rw [st_f (by omega), st_f (by omega), st_f (by omega), st_f (by omega), st_f (by omega), st_f (by omega), st_f (by omega), st_f (by omega), st_f (by omega)]
        refine X_b rfl rfl rfl (fun q4 => ?_) (fun q4 => ?_)
        · repeat (refine X_n rfl rfl rfl ?_)
          refine X_sa rfl rfl rfl hF hb ?_
          repeat (refine X_n rfl rfl rfl ?_)
          exact X_r rfl rfl rfl rfl (ky b _ ht (repC_stay hr hi hF hP60 hpP hc hcn hk hkn q4) (by rw [st_f (by omega)]; exact h163))
        · have q4 := Classical.not_not.mp q4
          repeat (refine X_n rfl rfl rfl ?_)
          refine X_la rfl rfl rfl hF hb ?_
          rw [h5]
          refine X_sa rfl rfl rfl hF (show p < 60 by omega) ?_
          repeat (refine X_n rfl rfl rfl ?_)
          refine X_cd rfl rfl rfl rfl (Y_end hF (show p < 60 by omega)) ?_
          repeat (refine X_n rfl rfl rfl ?_)
          exact X_r rfl rfl rfl rfl (ky b _ ht (repC_out hr hi hF hP60 hpP h0 hc hcn hk hkn q4) (by unfold endC; rw [st_f (by omega), st_f (by omega), st_f (by omega), st_f (by omega)]; exact h163))
theorem Y_stepOne (hF : okF F) (hS : okS F C0) (hP : okP F C0 P) (hR : rwC F C0 P) (hr : repC F C0 P t N A C) (hi : inv F C0 P t A) (hpP : p < P) (h0 : A 0 p = 0)
    (kn : tgt F C0 A N t (gRow F C0 p) (pA A p) 4 = none → Q (.inl (some (.int 0))) (hp F C J G))
    (ky : ∀ b C', tgt F C0 A N t (gRow F C0 p) (pA A p) 4 = some b → repC F C0 P t (upd N b (N b + 1)) (stp F C0 t p b A) C' → C' 163 = C 163 → Q (.inl (some (.int 1))) (hp F C' J G)) :
    Y y_Flight_stepOne [.ref 29, .int (nI p), .int (nI t)] (hp F C J G) Q := by
  have hn := hF.n
  have hP60 := hP.1
  obtain ⟨⟨c, c1, c2, c3, c4⟩, ⟨k, k1, k2, -⟩, -⟩ := hi.1 p hpP
  have ec := pA_eq hF c1 c2
  rw [ec] at kn ky
  obtain ⟨g0, g1, g2, g3, g4, g5, g6, g7⟩ := hr.2.1 p hpP
  unfold Y
  repeat (refine X_n rfl rfl rfl ?_)
  refine X_la rfl rfl rfl hF (show p < 60 by omega) ?_
  refine X_cd rfl rfl rfl rfl (Y_foundRowTo g6 (gRow_lt hP hpP)) ?_
  repeat (refine X_n rfl rfl rfl ?_)
  refine X_la rfl rfl rfl hF (show p < 60 by omega) ?_
  refine X_top (g4.trans c2) ?_
  iterate 3 (refine X_n rfl rfl rfl ?_)
  exact Y_stepOne_loop hF hS hP hR hr hi hpP h0 c2 c1 k1 (by omega) kn ky 4 _ (Nat.le_refl 4) rfl
end
end
section
/-! the class's run: smoke, the order, all steps of a second -/
def arrL (f : Nat → Int32) : Nat → List Nat → Prop
  | _, [] => True
  | o, a :: l => f o = nI a ∧ arrL f (o + 1) l
section
variable {F : Fx} {C0 A C : Ct} {P t p b k c : Nat} {N : Nat → Int32} {J : Nat → Int64} {G : Ex} {Q : mE → mH → Prop}
theorem arrL_app {f : Nat → Int32} : ∀ {l1 l2 : List Nat} {o : Nat}, arrL f o (l1 ++ l2) ↔ arrL f o l1 ∧ arrL f (o + l1.length) l2 := by
  intro l1
  induction l1 with
  | nil => intro l2 o; simp [arrL]
  | cons a l ih =>
    intro l2 o
    simp only [List.cons_append, arrL, ih, List.length_cons]
    rw [show o + 1 + l.length = o + (l.length + 1) by omega, and_assoc]
theorem arrL_upd {f : Nat → Int32} {x : Nat} {v : Int32} : ∀ {l : List Nat} {o : Nat}, (x < o ∨ o + l.length ≤ x) → arrL f o l → arrL (upd f x v) o l := by
  intro l
  induction l with
  | nil => intro o _ _; trivial
  | cons a l ih =>
    intro o hx h
    rw [List.length_cons] at hx
    refine ⟨?_, ih (by omega) h.2⟩
    show (if o = x then v else f o) = nI a
    rw [if_neg (by omega)]
    exact h.1
theorem repC.ord {f : Nat → Int32} (h : repC F C0 P t N A C) (hP : P ≤ 60) : repC F C0 P t N A (stA C 163 f) := by
  obtain ⟨h1, h2, h3, h4, h5⟩ := h
  refine ⟨fun k hk => ?_, fun q hq => ?_, fun c hc => ?_, ?_, fun c hc => ?_⟩
  · rw [← h1 k hk, stA_f (by omega)]
  · have := h2 q hq
    have e39 := ne39 (q := q) (by omega)
    have e100 := ne100 (q := q) (by omega)
    unfold repP at *
    simpa [stA_r, e39, e100] using this
  · simpa [stA_r] using h3 c hc
  · rw [stA_f (by omega)]; exact h4
  · simpa [ciC, stA_r] using h5 c hc
theorem Y_fnum (hF : okF F) (hP : okP F C0 P) (hR : rwC F C0 P) (hr : repC F C0 P t N A C) (hi : inv F C0 P t A) (hpP : p < P) : Yd y_Flight_numberOf [.ref 29, .int (nI p)] (hp F C J G) (.inl (some (.int (nuP F C0 A p)))) (hp F C J G) := by
  refine Yd_of (fun Q kk => ?_)
  have hn := hF.n
  have hP60 := hP.1
  have hg9 := gRow_lt hP hpP
  obtain ⟨⟨c, c1, c2, c3, c4⟩, -, -⟩ := hi.1 p hpP
  obtain ⟨g0, g1, g2, g3, g4, g5, g6, g7⟩ := hr.2.1 p hpP
  unfold nuP at kk
  rw [pA_eq hF c1 c2, ← (hR p hpP c c1).1, ← hr.1 _ (by omega)] at kk
  unfold Y
  repeat (refine X_n rfl rfl rfl ?_)
  refine X_la rfl rfl rfl hF (show p < 60 by omega) ?_
  refine X_cd rfl rfl rfl rfl (Y_foundRowTo g6 hg9) ?_
  repeat (refine X_n rfl rfl rfl ?_)
  refine X_la rfl rfl rfl hF (show p < 60 by omega) ?_
  refine X_li rfl (hp_at (kd_row _ hg9).1 (ln_0 (kd_row _ hg9).2)) (g4.trans c2) c1 (by omega) ?_
  exact X_r rfl rfl rfl rfl kk
theorem Y_smokeEnd_loop (hF : okF F) (hP : okP F C0 P) (hi : inv F C0 P t A)
    (kk : ∀ v C', (v = 0 ∨ v = 1) → (v = 0 → ∀ p, p < P → A 0 p = 0 → ¬ brd C0 (pA A p) t) → repC F C0 P t N (ctI C0 t A P) C' → Q (.inl (some (.int v))) (hp F C' J G)) :
    ∀ d i C v, i + d = P → repC F C0 P t N (ctI C0 t A i) C → (v = 0 ∨ v = 1) → (v = 0 → ∀ p, p < i → A 0 p = 0 → ¬ brd C0 (pA A p) t) → X y_Flight_endInSmoke 4 [some (.ref 29), some (.int (nI t)), some (.int v), some (.int (nI i))] [] (hp F C J G) Q := by
  have hn := hF.n
  have hP60 := hP.1
  intro d
  induction d with
  | zero =>
    intro i C v hd hr hv hq
    have : i = P := by omega
    subst this
    repeat (refine X_n rfl rfl rfl ?_)
    refine X_bt rfl rfl rfl (show C 23 5 ≤ nI i by rw [hr.1 23 (by omega), hP.2.1]; exact Int32.le_refl _) ?_
    have hk := kk v C hv hq hr
    rcases hv with e | e
    · subst e
      repeat (refine X_n rfl rfl rfl ?_)
      exact X_r rfl rfl rfl rfl hk
    · subst e
      repeat (refine X_n rfl rfl rfl ?_)
      exact X_r rfl rfl rfl rfl hk
  | succ d ih =>
    intro i C v hd hr hv hq
    have hiP : i < P := by omega
    have hi2 := ct_inv (C := C0) (t := t) hF hi (show i ≤ P by omega)
    obtain ⟨⟨c, c1, c2, c3, c4⟩, -, -⟩ := hi2.1 i hiP
    obtain ⟨g0, g1, g2, g3, g4, g5, g6, g7⟩ := hr.2.1 i hiP
    have e0 : ctI C0 t A i 0 i = A 0 i := ct_f (Nat.le_refl i) (by omega)
    have e4 : pA (ctI C0 t A i) i = pA A i := by unfold pA; rw [ct_f (Nat.le_refl i) (by omega)]
    have ec := pA_eq hF c1 c2
    have nx : ∀ C' v', repC F C0 P t N (ctI C0 t A (i + 1)) C' → (v' = 0 ∨ v' = 1) → (v' = 0 → ∀ p, p < i + 1 → A 0 p = 0 → ¬ brd C0 (pA A p) t) → X y_Flight_endInSmoke 62 [some (.ref 29), some (.int (nI t)), some (.int v'), some (.int (nI i))] [] (hp F C' J G) Q := by
      intro C' v' h1 h2 h3
      iterate 2 (refine X_n rfl rfl rfl ?_)
      rw [nI_1']
      exact ih (i + 1) C' v' (by omega) h1 h2 h3
    have no : ¬ (ctI C0 t A i 0 i = 0 ∧ brd C0 (pA (ctI C0 t A i) i) t) → X y_Flight_endInSmoke 62 [some (.ref 29), some (.int (nI t)), some (.int v), some (.int (nI i))] [] (hp F C J G) Q := by
      intro h
      refine nx C v (by rw [ctI, m_if_f h]; exact hr) hv (fun e p hp => ?_)
      by_cases ep : p = i
      · subst ep
        rw [e0, e4] at h
        exact fun a b => h ⟨a, b⟩
      · exact hq e p (by omega)
    repeat (refine X_n rfl rfl rfl ?_)
    refine X_bf rfl rfl rfl (show ¬ C 23 5 ≤ nI i by rw [hr.1 23 (by omega), hP.2.1]; exact nI_ge hiP (by omega)) ?_
    repeat (refine X_n rfl rfl rfl ?_)
    refine X_la rfl rfl rfl hF (show i < 60 by omega) ?_
    refine X_b rfl rfl rfl (fun q => ?_) (fun q => ?_)
    · exact no (fun h => q (g0.trans h.1))
    · have q := Classical.not_not.mp q
      repeat (refine X_n rfl rfl rfl ?_)
      refine X_la rfl rfl rfl hF (show i < 60 by omega) ?_
      refine X_top (g4.trans c2) ?_
      repeat (refine X_n rfl rfl rfl ?_)
      refine X_cd rfl rfl rfl rfl (Y_isBarred hF c1) ?_
      refine X_z rfl (fun q2 => ?_) (fun q2 => ?_)
      · exact no (fun h => q2 (by rw [hr.1 4 (by omega)]; rw [ec] at h; exact h.2))
      · rw [hr.1 4 (by omega)] at q2
        repeat (refine X_n rfl rfl rfl ?_)
        refine X_la rfl rfl rfl hF (show i < 60 by omega) ?_
        refine X_top (g4.trans c2) ?_
        repeat (refine X_n rfl rfl rfl ?_)
        refine X_sa rfl rfl rfl hF c1 ?_
        repeat (refine X_n rfl rfl rfl ?_)
        refine X_cd rfl rfl rfl rfl (Y_end hF (show i < 60 by omega)) ?_
        iterate 2 (refine X_n rfl rfl rfl ?_)
        refine nx _ 1 ?_ (Or.inr rfl) (fun h => absurd h (by decide))
        have h := (hr.cell (b := c) (v := -1) hP60).fin (p := i) (how := 2) (by decide) hiP (by simpa [st_r] using g0.symm.trans q) hP60
        rw [ctI, m_if_t ⟨g0.symm.trans q, by rw [ec]; exact q2⟩, ec]
        exact h
theorem Y_smokeEnd (hF : okF F) (hP : okP F C0 P) (hi : inv F C0 P t A) (hr : repC F C0 P t N A C)
    (kk : ∀ v C', (v = 0 ∨ v = 1) → (v = 0 → ∀ p, p < P → A 0 p = 0 → ¬ brd C0 (pA A p) t) → repC F C0 P t N (ctI C0 t A P) C' → Q (.inl (some (.int v))) (hp F C' J G)) :
    Y y_Flight_endInSmoke [.ref 29, .int (nI t)] (hp F C J G) Q := by
  unfold Y
  iterate 4 (refine X_n rfl rfl rfl ?_)
  exact Y_smokeEnd_loop hF hP hi kk P 0 C 0 (by omega) hr (Or.inl rfl) (fun _ p hp => by omega)
end
end
section
/-! the class's run: the order, all steps of a second -/
section
variable {F : Fx} {C0 A C : Ct} {P t p b k c : Nat} {N : Nat → Int32} {J : Nat → Int64} {G : Ex} {Q : mE → mH → Prop}
theorem ord_len {i : Nat} {l : List Nat} (h : Ord F C0 A t i l) : l.length ≤ i := pig i l (ord_nodup h) (fun x hx => ((h.2 x).mp hx).1)
theorem Y_lineUp_in {i m : Nat} (hF : okF F) (hP : okP F C0 P) (hR : rwC F C0 P) (hr : repC F C0 P t N A C) (hi : inv F C0 P t A) (hiP : i < P) (hc : cand F C0 A t i)
    (kk : ∀ f l, arrL f 0 l → l.length = m + 1 → Ord F C0 A t (i + 1) l → ∀ x5 x4, X y_Flight_lineUp 106 [some (.ref 29), some (.int (nI t)), some (.int (nI m)), some (.int (nI i)), x4, x5] [] (hp F (stA C 163 f) J G) Q) :
    ∀ n f l1 l2, l1.length = n → arrL f 0 l1 → arrL f (n + 1) l2 → n + l2.length = m → m < 60 → Ord F C0 A t i (l1 ++ l2) → (∀ p, p ∈ l2 → nuP F C0 A i < nuP F C0 A p) →
    X y_Flight_lineUp 53 [some (.ref 29), some (.int (nI t)), some (.int (nI m)), some (.int (nI i)), some (.int (nuP F C0 A i)), some (.int (nI n))] [] (hp F (stA C 163 f) J G) Q := by
  have hn := hF.n
  have hP60 := hP.1
  have exit : ∀ n f l1 l2, l1.length = n → arrL f 0 l1 → arrL f (n + 1) l2 → n + l2.length = m → m < 60 → Ord F C0 A t i (l1 ++ l2) → (∀ p, p ∈ l2 → nuP F C0 A i < nuP F C0 A p) → (∀ p, p ∈ l1 → nuP F C0 A p ≤ nuP F C0 A i) →
      X y_Flight_lineUp 98 [some (.ref 29), some (.int (nI t)), some (.int (nI m)), some (.int (nI i)), some (.int (nuP F C0 A i)), some (.int (nI n))] [] (hp F (stA C 163 f) J G) Q := by
    intro n f l1 l2 e1 h1 h2 e2 hm ho hl2 hl1
    repeat (refine X_n rfl rfl rfl ?_)
    refine X_sa (k := n) rfl rfl rfl hF (show n < 60 by omega) ?_
    rw [st_stA]
    refine kk _ (l1 ++ i :: l2) ?_ ?_ (ho.ins hc hl1 hl2) _ _
    · rw [arrL_app]
      refine ⟨arrL_upd (Or.inr (by omega)) h1, ?_, ?_⟩
      · show (if 0 + l1.length = n then nI i else f (0 + l1.length)) = nI i
        rw [if_pos (by omega)]
      · rw [show 0 + l1.length + 1 = n + 1 by omega]
        exact arrL_upd (Or.inl (by omega)) h2
    · rw [List.length_append, List.length_cons]; omega
  intro n
  induction n with
  | zero =>
    intro f l1 l2 e1 h1 h2 e2 hm ho hl2
    have : l1 = [] := List.length_eq_zero_iff.mp e1
    subst this
    repeat (refine X_n rfl rfl rfl ?_)
    refine X_bt rfl rfl rfl (show (nI 0 : Int32) ≤ 0 from Int32.le_refl _) ?_
    exact exit 0 f [] l2 e1 h1 h2 e2 hm ho hl2 (fun p hp => (by cases hp))
  | succ n ih =>
    intro f l1 l2 e1 h1 h2 e2 hm ho hl2
    rcases List.eq_nil_or_concat l1 with e | ⟨l0, a, e⟩
    · subst e; cases e1
    rw [List.concat_eq_append] at e
    subst e
    rw [List.length_append, List.length_cons, List.length_nil] at e1
    rw [arrL_app] at h1
    have fa : f n = nI a := by
      have := h1.2.1
      rw [show 0 + l0.length = n by omega] at this
      exact this
    have ma : a ∈ (l0 ++ [a]) ++ l2 := List.mem_append_left _ (List.mem_append_right _ (List.mem_cons_self ..))
    have haP : a < P := by have := ((ho.2 a).mp ma).1; omega
    repeat (refine X_n rfl rfl rfl ?_)
    refine X_bf rfl rfl rfl (show ¬ nI (n + 1) ≤ 0 from nI_ge (a := 0) (by omega) (by omega)) ?_
    repeat (refine X_n rfl rfl rfl ?_)
    refine X_top (w := nI n) (nI_pred n) ?_
    refine X_la rfl rfl rfl hF (show n < 60 by omega) ?_
    refine X_top (w := nI a) (show stA C 163 f 163 n = nI a by rw [stA_k]; exact fa) ?_
    refine X_cd rfl rfl rfl rfl (Y_fnum hF hP hR (hr.ord hP60) hi haP) ?_
    repeat (refine X_n rfl rfl rfl ?_)
    refine X_b rfl rfl rfl (fun q => ?_) (fun q => ?_)
    · refine exit (n + 1) f (l0 ++ [a]) l2 (by rw [List.length_append, List.length_cons, List.length_nil]; omega) (arrL_app.mpr h1) h2 e2 hm ho hl2 (fun p hp => ?_)
      have hpw := (List.pairwise_append.mp (List.pairwise_append.mp ho.1).1)
      rcases List.mem_append.mp hp with m1 | m1
      · rcases hpw.2.2 p m1 a (List.mem_cons_self ..) with g | ⟨g, -⟩
        · exact Int32.le_trans (Int32.le_of_lt g) q
        · rw [g]; exact q
      · rcases List.mem_cons.mp m1 with g | g
        · rw [g]; exact q
        · cases g
    · have q := Int32.not_le.mp q
      repeat (refine X_n rfl rfl rfl ?_)
      refine X_top (w := nI n) (nI_pred n) ?_
      refine X_la rfl rfl rfl hF (show n < 60 by omega) ?_
      refine X_top (w := nI a) (show stA C 163 f 163 n = nI a by rw [stA_k]; exact fa) ?_
      refine X_sa (k := n + 1) rfl rfl rfl hF (show n + 1 < 60 by omega) ?_
      rw [st_stA]
      iterate 2 (refine X_n rfl rfl rfl ?_)
      rw [show nI (n + 1) + Int32.ofInt (-1) = nI n from pk_m1 n]
      refine ih _ l0 (a :: l2) (by omega) (arrL_upd (Or.inr (by omega)) h1.1) ⟨?_, ?_⟩ (by rw [List.length_cons]; omega) hm (by rw [List.append_assoc] at ho; exact ho) (fun p hp => ?_)
      · show (if n + 1 = n + 1 then nI a else f (n + 1)) = nI a
        rw [if_pos rfl]
      · exact arrL_upd (Or.inl (by omega)) h2
      · rcases List.mem_cons.mp hp with g | g
        · rw [g]; exact q
        · exact hl2 p g
theorem Y_lineUp_loop (hF : okF F) (hP : okP F C0 P) (hR : rwC F C0 P) (hr : repC F C0 P t N A C) (hi : inv F C0 P t A)
    (kk : ∀ f l, arrL f 0 l → Ord F C0 A t P l → Q (.inl (some (.int (nI l.length)))) (hp F (stA C 163 f) J G)) :
    ∀ d i f l x4 x5, i + d = P → arrL f 0 l → Ord F C0 A t i l → X y_Flight_lineUp 4 [some (.ref 29), some (.int (nI t)), some (.int (nI l.length)), some (.int (nI i)), x4, x5] [] (hp F (stA C 163 f) J G) Q := by
  have hn := hF.n
  have hP60 := hP.1
  have e23 : ∀ f, stA C 163 f 23 5 = nI P := fun f => by rw [stA_f (by omega), hr.1 23 (by omega)]; exact hP.2.1
  intro d
  induction d with
  | zero =>
    intro i f l x4 x5 hd hf ho
    have : i = P := by omega
    subst this
    repeat (refine X_n rfl rfl rfl ?_)
    refine X_bt rfl rfl rfl (show stA C 163 f 23 5 ≤ nI i by rw [e23]; exact Int32.le_refl _) ?_
    repeat (refine X_n rfl rfl rfl ?_)
    exact X_r rfl rfl rfl rfl (kk f l hf ho)
  | succ d ih =>
    intro i f l x4 x5 hd hf ho
    have hiP : i < P := by omega
    obtain ⟨g0, g1, g2, g3, g4, g5, g6, g7⟩ := hr.2.1 i hiP
    have no : ¬ cand F C0 A t i → ∀ x4 x5, X y_Flight_lineUp 109 [some (.ref 29), some (.int (nI t)), some (.int (nI l.length)), some (.int (nI i)), x4, x5] [] (hp F (stA C 163 f) J G) Q := by
      intro h x4 x5
      iterate 2 (refine X_n rfl rfl rfl ?_)
      rw [nI_1']
      exact ih (i + 1) f l x4 x5 (by omega) hf (ho.skip h)
    repeat (refine X_n rfl rfl rfl ?_)
    refine X_bf rfl rfl rfl (show ¬ stA C 163 f 23 5 ≤ nI i by rw [e23]; exact nI_ge hiP (by omega)) ?_
    repeat (refine X_n rfl rfl rfl ?_)
    refine X_la rfl rfl rfl hF (show i < 60 by omega) ?_
    refine X_b rfl rfl rfl (fun q => ?_) (fun q => ?_)
    · exact no (fun h => q (show C 30 i = 0 from g0.trans h.1)) _ _
    have q : C 30 i = 0 := Classical.not_not.mp q
    repeat (refine X_n rfl rfl rfl ?_)
    refine X_la rfl rfl rfl hF (show i < 60 by omega) ?_
    repeat (refine X_n rfl rfl rfl ?_)
    refine X_b rfl rfl rfl (fun q2 => ?_) (fun q2 => ?_)
    · exact no (fun h => i32_irr _ (Int32.lt_of_lt_of_le (show nI t < A 9 i from g5 ▸ q2) h.2.1)) _ _
    have q2 : C 37 i ≤ nI t := Int32.not_lt.mp q2
    repeat (refine X_n rfl rfl rfl ?_)
    refine X_cd rfl rfl rfl rfl (Y_fnum hF hP hR (hr.ord hP60) hi hiP) ?_
    repeat (refine X_n rfl rfl rfl ?_)
    refine X_b rfl rfl rfl (fun q3 => ?_) (fun q3 => ?_)
    · exact no (fun h => h.2.2 q3) _ _
    have hc : cand F C0 A t i := ⟨g0.symm.trans q, by rw [← g5]; exact q2, q3⟩
    repeat (refine X_n rfl rfl rfl ?_)
    refine X_cd rfl rfl rfl rfl (Y_fnum hF hP hR (hr.ord hP60) hi hiP) ?_
    iterate 3 (refine X_n rfl rfl rfl ?_)
    have hl := ord_len ho
    refine Y_lineUp_in (m := l.length) hF hP hR hr hi hiP hc (fun f' l' h1 h2 h3 x5 x4 => ?_) l.length f l [] rfl hf trivial (by rw [List.length_nil]; rfl) (by omega) (by rw [List.append_nil]; exact ho) (fun p hp => (by cases hp))
    refine X_n rfl rfl rfl ?_
    iterate 2 (refine X_n rfl rfl rfl ?_)
    rw [nI_1', nI_1', ← h2]
    exact ih (i + 1) f' l' x4 x5 (by omega) h1 h3
theorem Y_lineUp (hF : okF F) (hP : okP F C0 P) (hR : rwC F C0 P) (hr : repC F C0 P t N A C) (hi : inv F C0 P t A)
    (kk : ∀ f l, arrL f 0 l → Ord F C0 A t P l → Q (.inl (some (.int (nI l.length)))) (hp F (stA C 163 f) J G)) : Y y_Flight_lineUp [.ref 29, .int (nI t)] (hp F C J G) Q := by
  unfold Y
  iterate 4 (refine X_n rfl rfl rfl ?_)
  have h := Y_lineUp_loop (Q := Q) hF hP hR hr hi kk P 0 (C 163) [] none none (by omega) trivial Ord.nil
  rw [stA_self] at h
  exact h
end
end
section
/-! the class's run: all steps of a second, the next change, the beginning, the whole -/
section
variable {F : Fx} {C0 A C : Ct} {P t p b k c : Nat} {N : Nat → Int32} {J : Nat → Int64} {G : Ex} {Q : mE → mH → Prop}
theorem Y_stepAll_loop {l : List Nat} {m : Nat} {z1 : Ct × (Nat → Int32)} (hF : okF F) (hS : okS F C0) (hP : okP F C0 P) (hR : rwC F C0 P) (ht : t ≤ 3600) (hm : m = l.length) (hm60 : m ≤ 60)
    (kk : ∀ v C', (v = 0 ∨ v = 1) → (v = 0 → ∀ p, p ∈ l → tgt F C0 A (fun _ => 0) t (gRow F C0 p) (pA A p) 4 = none) → repC F C0 P t z1.2 z1.1 C' → Q (.inl (some (.int v))) (hp F C' J G)) :
    ∀ l2 (z : Ct × (Nat → Int32)) C v j, l2.foldl (go1 F C0 t) z = z1 → l2.Nodup → (∀ p, p ∈ l2 → p < P ∧ cand F C0 z.1 t p) → j + l2.length = m → arrL (C 163) j l2 → repC F C0 P t z.2 z.1 C → inv F C0 P t z.1 → (v = 0 ∨ v = 1) → (v = 0 → z = (A, fun _ => 0) ∧ ∀ p, p ∈ l → p ∈ l2 ∨ tgt F C0 A (fun _ => 0) t (gRow F C0 p) (pA A p) 4 = none) →
    X y_Flight_stepAll 11 [some (.ref 29), some (.int (nI t)), some (.int v), some (.int (nI m)), some (.int (nI j))] [] (hp F C J G) Q := by
  have hP60 := hP.1
  intro l2
  induction l2 with
  | nil =>
    intro z C v j e1 _ _ e2 _ hr hi hv hq
    have : j = m := by rw [List.length_nil] at e2; omega
    subst this
    have e1 : z = z1 := e1
    have hk := kk v C hv (fun e p hp => by
      rcases (hq e).2 p hp with g | g
      · cases g
      · exact g) (e1 ▸ hr)
    repeat (refine X_n rfl rfl rfl ?_)
    refine X_bt rfl rfl rfl (Int32.le_refl _) ?_
    rcases hv with e | e
    · subst e
      repeat (refine X_n rfl rfl rfl ?_)
      exact X_r rfl rfl rfl rfl hk
    · subst e
      repeat (refine X_n rfl rfl rfl ?_)
      exact X_r rfl rfl rfl rfl hk
  | cons a l2 ih =>
    intro z C v j e1 hd hc e2 ha hr hi hv hq
    rw [List.length_cons] at e2
    obtain ⟨hd1, hd2⟩ := List.nodup_cons.mp hd
    obtain ⟨haP, hca⟩ := hc a (List.mem_cons_self ..)
    have hc2 : ∀ p, p ∈ l2 → p < P ∧ cand F C0 (go1 F C0 t z a).1 t p := fun p hp => by
      have hpa : p ≠ a := fun e => hd1 (e ▸ hp)
      obtain ⟨h1, h2⟩ := hc p (List.mem_cons_of_mem _ hp)
      exact ⟨h1, (cand_f (go1_f hpa (by omega)) (go1_f hpa (by omega)) (go1_f hpa (by omega))).mpr h2⟩
    have hi2 := go1_inv hF hS hP hi ht haP hca.1 hca.2.1
    rw [List.foldl_cons] at e1
    repeat (refine X_n rfl rfl rfl ?_)
    refine X_bf rfl rfl rfl (show ¬ nI m ≤ nI j from nI_ge (by omega) (by omega)) ?_
    repeat (refine X_n rfl rfl rfl ?_)
    refine X_la rfl rfl rfl hF (show j < 60 by omega) ?_
    refine X_top (w := nI a) ha.1 ?_
    repeat (refine X_n rfl rfl rfl ?_)
    refine X_k rfl rfl rfl rfl (Y_stepOne hF hS hP hR hr hi haP hca.1 (fun hn => ?_) (fun b C' hb hr2 h163 => ?_))
    · have ez : go1 F C0 t z a = z := by unfold go1; rw [hn]
      rw [ez] at e1 hc2 hi2
      dsimp only
      repeat (refine X_n rfl rfl rfl ?_)
      refine X_bt rfl rfl rfl rfl ?_
      iterate 2 (refine X_n rfl rfl rfl ?_)
      rw [nI_1']
      refine ih z C v (j + 1) e1 hd2 hc2 (by omega) ha.2 hr hi2 hv (fun e => ⟨(hq e).1, fun p hp => ?_⟩)
      rcases (hq e).2 p hp with g | g
      · rcases List.mem_cons.mp g with g | g
        · right
          have hz := (hq e).1
          rw [g]
          rw [hz] at hn
          exact hn
        · exact Or.inl g
      · exact Or.inr g
    · have ez : go1 F C0 t z a = (stp F C0 t a b z.1, upd z.2 b (z.2 b + 1)) := by unfold go1; rw [hb]
      rw [ez] at e1 hc2 hi2
      dsimp only
      repeat (refine X_n rfl rfl rfl ?_)
      refine X_bf rfl rfl rfl (show ¬ (1 : Int32) = 0 by decide) ?_
      iterate 2 (refine X_n rfl rfl rfl ?_)
      iterate 2 (refine X_n rfl rfl rfl ?_)
      rw [nI_1']
      exact ih _ C' 1 (j + 1) e1 hd2 hc2 (by omega) (by rw [h163]; exact ha.2) hr2 hi2 (Or.inr rfl) (fun e => absurd e (by decide))
theorem Y_stepAll (hF : okF F) (hS : okS F C0) (hP : okP F C0 P) (hR : rwC F C0 P) (ht : t ≤ 3600) (hr : repC F C0 P t (fun _ => 0) A C) (hi : inv F C0 P t A)
    (kk : ∀ v C', (v = 0 ∨ v = 1) → (v = 0 → ∀ p, p < P → cand F C0 A t p → tgt F C0 A (fun _ => 0) t (gRow F C0 p) (pA A p) 4 = none) → repC F C0 P t ((ordL F C0 A t P).foldl (go1 F C0 t) (A, fun _ => 0)).2 ((ordL F C0 A t P).foldl (go1 F C0 t) (A, fun _ => 0)).1 C' → Q (.inl (some (.int v))) (hp F C' J G)) :
    Y y_Flight_stepAll [.ref 29, .int (nI t)] (hp F C J G) Q := by
  have hP60 := hP.1
  unfold Y
  iterate 4 (refine X_n rfl rfl rfl ?_)
  refine X_k rfl rfl rfl rfl (Y_lineUp hF hP hR hr hi (fun f l hf ho => ?_))
  dsimp only
  iterate 3 (refine X_n rfl rfl rfl ?_)
  have e := ordL_eq ho
  rw [← e] at kk
  have hl := ord_len ho
  exact Y_stepAll_loop (l := l) (A := A) hF hS hP hR ht rfl (by omega) (fun v C' h1 h2 h3 => kk v C' h1 (fun e p hp hc => h2 e p ((ho.2 p).mpr ⟨hp, hc⟩)) h3) l (A, fun _ => 0) (stA C 163 f) 0 0 rfl (ord_nodup ho) (fun p hp => (ho.2 p).mp hp) (by omega) (by rw [stA_k]; exact hf) (hr.ord hP60) hi (Or.inl rfl) (fun _ => ⟨rfl, fun p hp => Or.inl hp⟩)
/-- the next change -/
def ncp (C0 A : Ct) (t u p : Nat) : Prop := A 0 p = 0 → (A 9 p ≤ nI t ∨ nI u ≤ A 9 p) ∧ (C0 4 (pA A p) ≤ nI t ∨ nI u ≤ C0 4 (pA A p))
theorem min_of {u : Nat} {x : Int32} (hu : t < u) (hu2 : u ≤ 3600) (hx : nI t < x) : ∃ u', t < u' ∧ u' ≤ u ∧ (if x < nI u then x else nI u) = nI u' ∧ nI u' ≤ x := by
  by_cases q : x < nI u
  · rw [if_pos q]
    have : ¬ x < 0 := fun h => i32_irr _ (Int32.lt_trans (Int32.lt_of_le_of_lt (nI_pos' (n := t) (by omega)) hx) h)
    obtain ⟨j, hj, e⟩ := nI_of this
    subst e
    exact ⟨j, (nI_ltI (by omega) hj).mp hx, Nat.le_of_lt ((nI_ltI hj (by omega)).mp q), rfl, Int32.le_refl _⟩
  · rw [if_neg q]
    exact ⟨u, hu, Nat.le_refl u, rfl, Int32.not_lt.mp q⟩
theorem ncp.mono {u u' : Nat} (h : ncp C0 A t u p) (hu : u' ≤ u) (h3 : u ≤ 3600) : ncp C0 A t u' p := fun e => by
  obtain ⟨h1, h2⟩ := h e
  have hle : nI u' ≤ nI u := nI_le hu (by omega)
  refine ⟨?_, ?_⟩
  · rcases h1 with g | g
    · exact Or.inl g
    · exact Or.inr (Int32.le_trans hle g)
  · rcases h2 with g | g
    · exact Or.inl g
    · exact Or.inr (Int32.le_trans hle g)
theorem Y_nextChange_loop (hF : okF F) (hP : okP F C0 P) (hr : repC F C0 P t N A C) (hi : inv F C0 P t A) (ht : t < 3600)
    (kk : ∀ u, t < u → u ≤ 3600 → (∀ p, p < P → ncp C0 A t u p) → Q (.inl (some (.int (nI u)))) (hp F C J G)) :
    ∀ d i u x4 x5, i + d = P → t < u → u ≤ 3600 → (∀ p, p < i → ncp C0 A t u p) → X y_Flight_nextChange 6 [some (.ref 29), some (.int (nI t)), some (.int (nI u)), some (.int (nI i)), x4, x5] [] (hp F C J G) Q := by
  have hn := hF.n
  have hP60 := hP.1
  have e23 : C 23 5 = nI P := by rw [hr.1 23 (by omega)]; exact hP.2.1
  intro d
  induction d with
  | zero =>
    intro i u x4 x5 hd h1 h2 h3
    have : i = P := by omega
    subst this
    repeat (refine X_n rfl rfl rfl ?_)
    refine X_bt rfl rfl rfl (show C 23 5 ≤ nI i by rw [e23]; exact Int32.le_refl _) ?_
    repeat (refine X_n rfl rfl rfl ?_)
    exact X_r rfl rfl rfl rfl (kk u h1 h2 h3)
  | succ d ih =>
    intro i u x4 x5 hd h1 h2 h3
    have hiP : i < P := by omega
    obtain ⟨⟨c, c1, c2, c3, c4⟩, -, -⟩ := hi.1 i hiP
    have ec := pA_eq hF c1 c2
    obtain ⟨g0, g1, g2, g3, g4, g5, g6, g7⟩ := hr.2.1 i hiP
    have nx : ∀ u x4 x5, t < u → u ≤ 3600 → (∀ p, p < i → ncp C0 A t u p) → ncp C0 A t u i → X y_Flight_nextChange 76 [some (.ref 29), some (.int (nI t)), some (.int (nI u)), some (.int (nI i)), x4, x5] [] (hp F C J G) Q := by
      intro u x4 x5 h1 h2 h3 h4
      iterate 2 (refine X_n rfl rfl rfl ?_)
      rw [nI_1']
      refine ih (i + 1) u x4 x5 (by omega) h1 h2 (fun p hp => ?_)
      by_cases e : p = i
      · subst e; exact h4
      · exact h3 p (by omega)
    have hC4 : C 4 = C0 4 := hr.1 4 (by omega)
    have st2 : ∀ u x4 x5, t < u → u ≤ 3600 → (∀ p, p < i → ncp C0 A t u p) → (A 9 i ≤ nI t ∨ nI u ≤ A 9 i) → X y_Flight_nextChange 47 [some (.ref 29), some (.int (nI t)), some (.int (nI u)), some (.int (nI i)), x4, x5] [] (hp F C J G) Q := by
      intro u x4 x5 h1 h2 h3 h9
      repeat (refine X_n rfl rfl rfl ?_)
      refine X_la rfl rfl rfl hF (show i < 60 by omega) ?_
      refine X_top (w := nI c) (g4.trans c2) ?_
      refine X_la rfl rfl rfl hF c1 ?_
      rw [hC4]
      repeat (refine X_n rfl rfl rfl ?_)
      refine X_b rfl rfl rfl (fun q => ?_) (fun q => ?_)
      · refine nx u _ _ h1 h2 h3 (fun _ => ⟨h9, Or.inl ?_⟩)
        rw [ec]; exact q
      · have q := Int32.not_le.mp q
        obtain ⟨u', w1, w2, w3, w4⟩ := min_of h1 h2 q
        iterate 3 (refine X_n rfl rfl rfl ?_)
        refine X_top (w := nI u') w3 ?_
        iterate 1 (refine X_n rfl rfl rfl ?_)
        refine nx u' _ _ w1 (by omega) (fun p hp => (h3 p hp).mono w2 h2) (fun e => ⟨?_, Or.inr (by rw [ec]; exact w4)⟩)
        rcases h9 with g | g
        · exact Or.inl g
        · exact Or.inr (Int32.le_trans (nI_le w2 (by omega)) g)
    repeat (refine X_n rfl rfl rfl ?_)
    refine X_bf rfl rfl rfl (show ¬ C 23 5 ≤ nI i by rw [e23]; exact nI_ge hiP (by omega)) ?_
    repeat (refine X_n rfl rfl rfl ?_)
    refine X_la rfl rfl rfl hF (show i < 60 by omega) ?_
    refine X_b rfl rfl rfl (fun q => ?_) (fun q => ?_)
    · exact nx u _ _ h1 h2 h3 (fun e => absurd (g0.trans e) q)
    repeat (refine X_n rfl rfl rfl ?_)
    refine X_la rfl rfl rfl hF (show i < 60 by omega) ?_
    repeat (refine X_n rfl rfl rfl ?_)
    refine X_b rfl rfl rfl (fun q2 => ?_) (fun q2 => ?_)
    · exact st2 u _ _ h1 h2 h3 (Or.inl (by rw [← g5]; exact q2))
    · have q2 := Int32.not_le.mp q2
      obtain ⟨u', w1, w2, w3, w4⟩ := min_of h1 h2 q2
      iterate 3 (refine X_n rfl rfl rfl ?_)
      refine X_top (w := nI u') w3 ?_
      iterate 1 (refine X_n rfl rfl rfl ?_)
      exact st2 u' _ _ w1 (by omega) (fun p hp => (h3 p hp).mono w2 h2) (Or.inr (by rw [← g5]; exact w4))
theorem Y_nextChange (hF : okF F) (hP : okP F C0 P) (hr : repC F C0 P t N A C) (hi : inv F C0 P t A) (ht : t < 3600)
    (kk : ∀ u, t < u → u ≤ 3600 → (∀ p, p < P → ncp C0 A t u p) → Q (.inl (some (.int (nI u)))) (hp F C J G)) : Y y_Flight_nextChange [.ref 29, .int (nI t)] (hp F C J G) Q := by
  unfold Y
  iterate 4 (refine X_n rfl rfl rfl ?_)
  exact Y_nextChange_loop hF hP hr hi ht kk P 0 3600 none none (by omega) ht (Nat.le_refl _) (fun p hp => by omega)
end
end
section
/-! the class's run: how it begins -/
section
variable {F : Fx} {C0 A C : Ct} {P t p b k c : Nat} {N : Nat → Int32} {J : Nat → Int64} {G : Ex} {Q : mE → mH → Prop}
theorem hRow_eq (hP : okP F C0 P) (hpP : p < P) : C0 27 p + 1 = nI (hRow C0 p) := by
  unfold hRow
  rcases (hP.2.2.1 p hpP).2.2.2 with e | ⟨x, e, h8, -⟩
  · rw [e]; decide
  · rw [e, nI_1, nI_clamp (by omega)]
theorem Y_goalOf (hF : okF F) (hP : okP F C0 P) (hR : rwC F C0 P) (hpP : p < P) (hC : ∀ k, k < 29 → C k = C0 k) (kk : ∀ g, g + 1 = nI (gRow F C0 p) → Q (.inl (some (.int g))) (hp F C J G)) : Y y_Flight_goalOf [.ref 29, .int (nI p)] (hp F C J G) Q := by
  have hn := hF.n
  have hP60 := hP.1
  have hs := s0_lt hF hP hpP
  have hr9 := hRow_lt hP hpP
  have e27 : C 27 p = C0 27 p := by rw [hC 27 (by omega)]
  have e24 : C 24 p = nI (s0 C0 p) := by rw [hC 24 (by omega)]; exact hs.2.1
  have eR : C (12 + hRow C0 p) (s0 C0 p) = nuC F C0 (hRow C0 p) (s0 C0 p) := by rw [hC _ (by omega)]; exact (hR p hpP _ hs.1).2
  unfold Y
  repeat (refine X_n rfl rfl rfl ?_)
  refine X_la rfl rfl rfl hF (show p < 60 by omega) ?_
  rw [e27]
  repeat (refine X_n rfl rfl rfl ?_)
  refine X_cd rfl rfl rfl rfl (Y_foundRowTo (hRow_eq hP hpP) hr9) ?_
  repeat (refine X_n rfl rfl rfl ?_)
  refine X_la rfl rfl rfl hF (show p < 60 by omega) ?_
  refine X_li rfl (hp_at (kd_row _ hr9).1 (ln_0 (kd_row _ hr9).2)) e24 hs.1 (by omega) ?_
  rw [eR]
  unfold gRow at kk
  repeat (refine X_n rfl rfl rfl ?_)
  refine X_b rfl rfl rfl (fun q => ?_) (fun q => ?_)
  · have q : ¬ nuC F C0 (hRow C0 p) (s0 C0 p) = -1 := q
    repeat (refine X_n rfl rfl rfl ?_)
    exact X_r rfl rfl rfl rfl (kk (C0 27 p) (by rw [m_if_f q]; exact hRow_eq hP hpP))
  · have q : nuC F C0 (hRow C0 p) (s0 C0 p) = -1 := Classical.not_not.mp q
    repeat (refine X_n rfl rfl rfl ?_)
    exact X_r rfl rfl rfl rfl (kk (-1) (by rw [m_if_t q]; decide))
def repB (F : Fx) (C0 : Ct) (P i : Nat) (C : Ct) : Prop :=
  (∀ k, k < 29 ∨ 163 < k → C k = C0 k) ∧ (∀ p, p < i → repP F C0 (bgn C0) C p) ∧ (∀ c, c < F.1 * F.2.1 → C 160 c = C0 28 c ∧ C 34 c = 0 ∧ C 162 c = 0) ∧ C 29 18 = nI P
theorem cntW_bgn : ∀ i, cntW (bgn C0) i = i := by
  intro i
  induction i with
  | zero => rfl
  | succ i ih => rw [cntW, ih, if_pos (by simp [bgn])]
theorem repB_C (h : repB F C0 P P C) : repC F C0 P 0 (fun c => ciC C c (nI 0)) (bgn C0) C := by
  obtain ⟨h1, h2, h3, h4⟩ := h
  refine ⟨h1, h2, fun c hc => ?_, by rw [cntW_bgn]; exact h4, fun c hc => ⟨rfl, 0, Nat.le_refl 0, (h3 c hc).2.2⟩⟩
  obtain ⟨g1, g2, -⟩ := h3 c hc
  exact ⟨g1.trans (by simp [bgn]), g2.trans (by simp [bgn])⟩
theorem Y_begin_loop (hF : okF F) (hP : okP F C0 P) (hR : rwC F C0 P) (kk : ∀ C', repB F C0 P P C' → Q (.inl none) (hp F C' J G)) :
    ∀ d i C, i + d = P → repB F C0 P i C → X y_Flight_begin 50 [some (.ref 29), some (.int (nI i))] [] (hp F C J G) Q := by
  have hn := hF.n
  have hP60 := hP.1
  intro d
  induction d with
  | zero =>
    intro i C hd hr
    have : i = P := by omega
    subst this
    repeat (refine X_n rfl rfl rfl ?_)
    refine X_bt rfl rfl rfl (show C 23 5 ≤ nI i by rw [hr.1 23 (by omega), hP.2.1]; exact Int32.le_refl _) ?_
    exact X_r rfl rfl rfl rfl (kk C hr)
  | succ d ih =>
    intro i C hd hr
    have hiP : i < P := by omega
    have h60 : i < 60 := by omega
    repeat (refine X_n rfl rfl rfl ?_)
    refine X_bf rfl rfl rfl (show ¬ C 23 5 ≤ nI i by rw [hr.1 23 (by omega), hP.2.1]; exact nI_ge hiP (by omega)) ?_
    repeat (refine X_n rfl rfl rfl ?_)
    refine X_sa rfl rfl rfl hF (show i < 60 from h60) ?_
    repeat (refine X_n rfl rfl rfl ?_)
    refine X_sa rfl rfl rfl hF (show i < 60 from h60) ?_
    repeat (refine X_n rfl rfl rfl ?_)
    refine X_sa rfl rfl rfl hF (show i < 60 from h60) ?_
    repeat (refine X_n rfl rfl rfl ?_)
    refine X_sa rfl rfl rfl hF (show i < 60 from h60) ?_
    repeat (refine X_n rfl rfl rfl ?_)
    refine X_la rfl rfl rfl hF (show i < 60 from h60) ?_
    refine X_sa rfl rfl rfl hF (show i < 60 from h60) ?_
    repeat (refine X_n rfl rfl rfl ?_)
    refine X_k rfl rfl rfl rfl (Y_goalOf hF hP hR hiP (fun k hk => ?_) (fun g hg => ?_))
    · rw [st_f (by omega), st_f (by omega), st_f (by omega), st_f (by omega), st_f (by omega)]
      exact hr.1 k (Or.inl hk)
    · dsimp only
      refine X_sa rfl rfl rfl hF (show i < 60 from h60) ?_
      repeat (refine X_n rfl rfl rfl ?_)
      refine X_la rfl rfl rfl hF (show i < 60 from h60) ?_
      repeat (refine X_n rfl rfl rfl ?_)
      refine X_la rfl rfl rfl hF (show i < 60 from h60) ?_
      repeat (refine X_n rfl rfl rfl ?_)
      refine X_sa rfl rfl rfl hF (show i < 60 from h60) ?_
      iterate 2 (refine X_n rfl rfl rfl ?_)
      rw [nI_1']
      refine ih (i + 1) _ (by omega) ⟨fun k hk => ?_, fun q hq => ?_, fun c hc => ?_, ?_⟩
      · rw [st_f (by omega), st_f (by omega), st_f (by omega), st_f (by omega), st_f (by omega), st_f (by omega), st_f (by omega)]
        exact hr.1 k hk
      · have e39 := ne39 (q := q) (by omega)
        have e100 := ne100 (q := q) (by omega)
        have e24 : C 24 i = C0 24 i := by rw [hr.1 24 (by omega)]
        have e25 : C 25 i = C0 25 i := by rw [hr.1 25 (by omega)]
        have e26 : C 26 i = C0 26 i := by rw [hr.1 26 (by omega)]
        by_cases e : q = i
        · subst e
          unfold repP
          refine ⟨by simp [st_r, bgn], by simp [st_r, bgn], by simp [st_r, bgn], by simp [st_r, bgn], by simp [st_r, bgn, e24], by simp [st_r, bgn, e25, e26], by simpa [st_r] using hg, fun k hk => ?_⟩
          have : bgn C0 3 q = 0 := by simp [bgn]
          rw [this] at hk
          exact absurd hk (by decide +revert)
        · have := hr.2.1 q (by omega)
          unfold repP at *
          simpa [st_r, e, e39, e100] using this
      · simpa [st_r] using hr.2.2.1 c hc
      · simpa [st_r] using hr.2.2.2
theorem Y_begin (hF : okF F) (hP : okP F C0 P) (hR : rwC F C0 P) (kk : ∀ C', repB F C0 P P C' → Q (.inl none) (hp F C' J G)) : Y y_Flight_begin [.ref 29] (hp F C0 J G) Q := by
  have hn := hF.n
  have hP60 := hP.1
  unfold Y
  repeat (refine X_n rfl rfl rfl ?_)
  refine X_m rfl rfl rfl rfl rfl (m_if_t ⟨⟨⟨?_, ?_⟩, ?_, ?_⟩, ⟨?_, ?_⟩, ?_, ?_, ?_⟩) ?_
  · decide
  · decide
  · exact nI_pos (show F.1 * F.2.1 < 2 ^ 31 by omega)
  · show 28 < m_sB; decide
  · show (Int32.ofInt 0).toNatClampNeg + (nI (F.1 * F.2.1)).toNatClampNeg ≤ F.1 * F.2.1
    rw [nI_clamp (by omega), show (Int32.ofInt 0).toNatClampNeg = 0 from by decide]; omega
  · show (Int32.ofInt 0).toNatClampNeg + (nI (F.1 * F.2.1)).toNatClampNeg ≤ F.1 * F.2.1
    rw [nI_clamp (by omega), show (Int32.ofInt 0).toNatClampNeg = 0 from by decide]; omega
  · show 160 < m_sB; decide
  · decide
  · decide
  refine X_h (hp_stA (k := 160) rfl rfl) ?_
  repeat (refine X_n rfl rfl rfl ?_)
  refine X_cd rfl rfl rfl rfl (Y_fillC (k := 34) rfl rfl (by show F.1 * F.2.1 < _; omega)) ?_
  repeat (refine X_n rfl rfl rfl ?_)
  refine X_cd rfl rfl rfl rfl (Y_fillC (k := 162) rfl rfl (by show F.1 * F.2.1 < _; omega)) ?_
  repeat (refine X_n rfl rfl rfl ?_)
  refine X_s rfl rfl ?_
  refine X_h (hp_f29_18 rfl) ?_
  iterate 2 (refine X_n rfl rfl rfl ?_)
  refine Y_begin_loop hF hP hR kk P 0 _ (by omega) ⟨fun k hk => ?_, fun p hp => by omega, fun c hc => ?_, ?_⟩
  · rw [st_f (by omega), stA_f (by omega), stA_f (by omega), stA_f (by omega)]
  · have e0 : (Int32.ofInt 0).toNatClampNeg = 0 := by decide
    have en : (nI (F.1 * F.2.1)).toNatClampNeg = F.1 * F.2.1 := nI_clamp (by omega)
    refine ⟨?_, ?_, ?_⟩
    · rw [st_k (by omega), stA_f (by omega), stA_f (by omega), stA_k]
      show (if (Int32.ofInt 0).toNatClampNeg ≤ c ∧ c < (Int32.ofInt 0).toNatClampNeg + (nI (F.1 * F.2.1)).toNatClampNeg then C0 28 ((Int32.ofInt 0).toNatClampNeg + (c - (Int32.ofInt 0).toNatClampNeg)) else C0 160 c) = C0 28 c
      rw [e0, en, if_pos (by omega)]
      congr 1
      omega
    · rw [st_k (by omega), stA_f (by omega), stA_k]
      show (if c < F.1 * F.2.1 then _ else _) = _
      rw [if_pos hc]; rfl
    · rw [st_k (by omega), stA_k]
      show (if c < F.1 * F.2.1 then _ else _) = _
      rw [if_pos hc]; rfl
  · rw [st_s]; exact hP.2.1
theorem repC.next {u : Nat} (h : repC F C0 P t N A C) (hu : t < u) (hu2 : u ≤ 3600) : repC F C0 P u (fun _ => 0) A C := by
  obtain ⟨h1, h2, h3, h4, h5⟩ := h
  refine ⟨h1, h2, h3, h4, fun c hc => ?_⟩
  obtain ⟨-, s, hs, e⟩ := h5 c hc
  refine ⟨?_, s, by omega, e⟩
  unfold ciC
  rw [e, if_neg (fun q => by have := (nI_eq (by omega) (by omega)).mp q; omega)]
theorem repC.last {v : Int32} (h : repC F C0 P t N A C) (hP : P ≤ 60) : repC F C0 P t N A (st C 29 8 v) := by
  obtain ⟨h1, h2, h3, h4, h5⟩ := h
  refine ⟨fun k hk => ?_, fun q hq => ?_, fun c hc => ?_, ?_, fun c hc => ?_⟩
  · rw [← h1 k hk, st_f (by omega)]
  · have := h2 q hq
    have e39 := ne39 (q := q) (by omega)
    have e100 := ne100 (q := q) (by omega)
    unfold repP at *
    simpa [st_r, e39, e100] using this
  · simpa [st_r] using h3 c hc
  · rw [st_i (by omega)]; exact h4
  · simpa [ciC, st_r] using h5 c hc
theorem max_of {a b : Nat} (h : a ≤ b) (hb : b < 2 ^ 31) : (if nI a < nI b then nI b else nI a) = nI b := by
  by_cases e : a = b
  · subst e; split <;> rfl
  · rw [if_pos (nI_lt (by omega) hb)]
theorem runF_end {d : Nat} (h : ¬ waits P A) : runF F C0 P d t A = (t, A) := by
  cases d with
  | zero => rfl
  | succ d => rw [runF, m_if_f h]
theorem Y_goAll_loop (hF : okF F) (hS : okS F C0) (hP : okP F C0 P) (hR : rwC F C0 P)
    (kk : ∀ C' N', repC F C0 P (fin F C0 P).1 N' (fin F C0 P).2 C' → C' 29 8 = nI (fin F C0 P).1 → inv F C0 P (fin F C0 P).1 (fin F C0 P).2 → (fin F C0 P).1 ≤ 3600 → Q (.inl none) (hp F C' J G)) :
    ∀ d t A C N v x3 x4, 3600 ≤ t + d → t ≤ 3600 → repC F C0 P t N A C → inv F C0 P t A → runF F C0 P (3600 - t) t A = fin F C0 P → (v = 0 ∨ v = 1) → (v = 0 → quiet F C0 P t A) → X y_Flight_goAll 8 [some (.ref 29), some (.int (nI t)), some (.int v), x3, x4] [] (hp F C J G) Q := by
  have hn := hF.n
  have hP60 := hP.1
  intro d
  have done : ∀ t A C N v x3 x4, t ≤ 3600 → repC F C0 P t N A C → inv F C0 P t A → runF F C0 P (3600 - t) t A = fin F C0 P → (¬ waits P A ∨ t = 3600) → X y_Flight_goAll 73 [some (.ref 29), some (.int (nI t)), some (.int v), x3, x4] [] (hp F C J G) Q := by
    intro t A C N v x3 x4 ht hr hi hf hw
    have e : fin F C0 P = (t, A) := by
      rw [← hf]
      rcases hw with h | h
      · exact runF_end h
      · rw [h]; rfl
    rw [e] at kk
    repeat (refine X_n rfl rfl rfl ?_)
    refine X_s rfl rfl ?_
    refine X_h (hp_f29_8 rfl) ?_
    exact X_r rfl rfl rfl rfl (kk _ N (hr.last hP60) st_s hi ht)
  have cw : ∀ (A C : Ct) (N : Nat → Int32) (t : Nat), repC F C0 P t N A C → (C 29 18 ≤ 0 → ¬ waits P A) ∧ (¬ C 29 18 ≤ 0 → waits P A) := by
    intro A C N t hr
    have := hr.2.2.2.1
    have hle := cntW_le' (A := A) (P := P)
    rw [this, ← cntW_pos]
    refine ⟨fun h => ?_, fun h => ?_⟩
    · have := (nI_leI (b := 0) (by omega) (by omega)).mp h
      omega
    · by_cases e : cntW A P = 0
      · rw [e] at h; exact absurd (Int32.le_refl _) h
      · omega
  induction d with
  | zero =>
    intro t A C N v x3 x4 h1 h2 hr hi hf hv hq
    have : t = 3600 := by omega
    subst this
    repeat (refine X_n rfl rfl rfl ?_)
    refine X_b rfl rfl rfl (fun q => ?_) (fun q => ?_)
    · exact done 3600 A C N v _ _ h2 hr hi hf (Or.inr rfl)
    repeat (refine X_n rfl rfl rfl ?_)
    refine X_bt rfl rfl rfl (Int32.le_refl _) ?_
    exact done 3600 A C N v _ _ h2 hr hi hf (Or.inr rfl)
  | succ d ih =>
    intro t A C N v x3 x4 h1 h2 hr hi hf hv hq
    repeat (refine X_n rfl rfl rfl ?_)
    refine X_b rfl rfl rfl (fun q => ?_) (fun q => ?_)
    · exact done t A C N v _ _ h2 hr hi hf (Or.inl ((cw A C N t hr).1 q))
    have hw := (cw A C N t hr).2 q
    repeat (refine X_n rfl rfl rfl ?_)
    refine X_b rfl rfl rfl (fun q2 => ?_) (fun q2 => ?_)
    · have : 3600 ≤ t := (nI_leI (by omega) (by omega)).mp q2
      exact done t A C N v _ _ h2 hr hi hf (Or.inr (by omega))
    have ht : t < 3600 := by
      rcases Nat.lt_or_ge t 3600 with g | g
      · exact g
      · exact absurd (nI_le g (by omega)) q2
    -- the second t' that is done now
    have go : ∀ u, t < u → u ≤ 3600 → (∀ w, t < w → w < u → quiet F C0 P w A) → X y_Flight_goAll 41 [some (.ref 29), some (.int (nI t)), some (.int v), x3, x4] [.int (nI u)] (hp F C J G) Q := by
      intro u hu1 hu2 hqu
      have hf2 : runF F C0 P (3600 - u) u (sec F C0 P u A) = fin F C0 P := by
        rw [← hf, run_skip (u - 1 - t) (3600 - t) t (by omega) hw (fun w a b => hqu w a (by omega))]
        rw [show t + (u - 1 - t) = u - 1 by omega, show 3600 - t - (u - 1 - t) = (3600 - u) + 1 by omega, runF, m_if_t hw, show u - 1 + 1 = u by omega]
      have hi2 : inv F C0 P (u - 1) A := hi.mono (by omega)
      have hs := sec_inv hF hS hP hi2 (by omega)
      rw [show u - 1 + 1 = u by omega] at hs
      have hi3 : inv F C0 P u A := hi.mono (by omega)
      repeat (refine X_n rfl rfl rfl ?_)
      refine X_k rfl rfl rfl rfl (Y_smokeEnd hF hP hi3 (hr.next hu1 hu2) (fun v1 C1 e1 e2 hr1 => ?_))
      dsimp only
      repeat (refine X_n rfl rfl rfl ?_)
      refine X_k rfl rfl rfl rfl (Y_stepAll hF hS hP hR hu2 hr1 (ct_inv hF hi3 (Nat.le_refl P)) (fun v2 C2 e3 e4 hr2 => ?_))
      dsimp only
      have fin2 : ∀ v w, (v = 0 ∨ v = 1) → (v = 0 → v1 = 0 ∧ v2 = 0) → X y_Flight_goAll 69 [some (.ref 29), some (.int (nI u)), some (.int w), some (.int v1), some (.int v2)] [.int v] (hp F C2 J G) Q := by
        intro v w hv hvv
        iterate 2 (refine X_n rfl rfl rfl ?_)
        refine ih u _ C2 _ v _ _ (by omega) hu2 hr2 hs hf2 hv (fun e => ?_)
        have hq1 := e2 (hvv e).1
        have ec := ct_quiet hq1 P (Nat.le_refl P)
        have hq2 := e4 (hvv e).2
        rw [ec] at hq2
        have hqq : quiet F C0 P u A := ⟨hq1, hq2⟩
        have : (List.foldl (go1 F C0 u) (ctI C0 u A P, fun _ => 0) (ordL F C0 (ctI C0 u A P) u P)).1 = A := sec_quiet hqq
        rw [this]
        exact hqq
      repeat (refine X_n rfl rfl rfl ?_)
      refine X_b rfl rfl rfl (fun r1 => ?_) (fun r1 => ?_)
      · iterate 2 (refine X_n rfl rfl rfl ?_)
        exact fin2 1 _ (Or.inr rfl) (fun e => absurd e (by decide))
      · have r1 : v1 = 0 := Classical.not_not.mp r1
        repeat (refine X_n rfl rfl rfl ?_)
        refine X_b rfl rfl rfl (fun r2 => ?_) (fun r2 => ?_)
        · iterate 1 (refine X_n rfl rfl rfl ?_)
          exact fin2 0 _ (Or.inl rfl) (fun _ => ⟨r1, r2⟩)
        · iterate 2 (refine X_n rfl rfl rfl ?_)
          exact fin2 1 _ (Or.inr rfl) (fun e => absurd e (by decide))
    rcases hv with e | e
    · subst e
      have hq := hq rfl
      repeat (refine X_n rfl rfl rfl ?_)
      refine X_bt rfl rfl rfl rfl ?_
      repeat (refine X_n rfl rfl rfl ?_)
      refine X_k rfl rfl rfl rfl (Y_nextChange hF hP hr hi ht (fun u hu1 hu2 hnc => ?_))
      dsimp only
      refine X_n rfl rfl rfl ?_
      refine X_top (w := nI u) ?_ ?_
      · have := max_of (show t + 1 ≤ u from hu1) (by omega)
        rw [nI_1']
        exact this
      · refine go u hu1 hu2 (fun w w1 w2 => quiet_skip hq (by omega) (by omega) (fun p hp h0 => ?_) (fun p hp h0 => ?_))
        · rcases (hnc p hp h0).1 with g | g
          · exact Or.inl g
          · exact Or.inr (Int32.lt_of_lt_of_le (nI_lt w2 (by omega)) g)
        · rcases (hnc p hp h0).2 with g | g
          · exact Or.inl g
          · exact Or.inr (Int32.lt_of_lt_of_le (nI_lt w2 (by omega)) g)
    · subst e
      repeat (refine X_n rfl rfl rfl ?_)
      refine X_bf rfl rfl rfl (show ¬ (1 : Int32) = 0 by decide) ?_
      iterate 2 (refine X_n rfl rfl rfl ?_)
      refine X_n rfl rfl rfl ?_
      refine X_top (w := nI (t + 1)) ?_ (go (t + 1) (by omega) (by omega) (fun w a b => by omega))
      rw [nI_1']
      show (if nI (t + 1) < nI 0 then nI 0 else nI (t + 1)) = _
      rw [if_neg (nI_nlt (by omega) (by omega))]
theorem Y_goAll (hF : okF F) (hS : okS F C0) (hP : okP F C0 P) (hR : rwC F C0 P)
    (kk : ∀ C' N', repC F C0 P (fin F C0 P).1 N' (fin F C0 P).2 C' → C' 29 8 = nI (fin F C0 P).1 → inv F C0 P (fin F C0 P).1 (fin F C0 P).2 → (fin F C0 P).1 ≤ 3600 → Q (.inl none) (hp F C' J G)) :
    Y y_Flight_goAll [.ref 29] (hp F C0 J G) Q := by
  unfold Y
  repeat (refine X_n rfl rfl rfl ?_)
  refine X_k rfl rfl rfl rfl (Y_begin hF hP hR (fun C' hb => ?_))
  dsimp only
  iterate 4 (refine X_n rfl rfl rfl ?_)
  exact Y_goAll_loop hF hS hP hR kk 3600 0 (bgn C0) C' _ 1 none none (by omega) (by omega) (repB_C hb) (bgn_inv hF hS hP) rfl (Or.inr rfl) (fun e => absurd e (by decide))
end
end
section
/-! the class's run: all rows are found, then all go -/
def cut (C : Ct) : Ct := fun k => if (1 ≤ k ∧ k ≤ 9) ∨ (23 ≤ k ∧ k ≤ 28) then C k else fun _ => 0
section
variable {F : Fx} {C0 A C C' : Ct} {P t p b k c e : Nat} {N : Nat → Int32} {J : Nat → Int64} {G : Ex} {Q : mE → mH → Prop}
theorem cut_eq (h : cfg C C') : cut C' = cut C := by
  funext k
  unfold cut
  by_cases q : (1 ≤ k ∧ k ≤ 9) ∨ (23 ≤ k ∧ k ≤ 28)
  · rw [if_pos q, if_pos q, h k q]
  · rw [if_neg q, if_neg q]
theorem nuC_cut : nuC F (cut C) = nuC F C := rfl
theorem nuC_cfg (h : cfg C C') : nuC F C' = nuC F C := by rw [← nuC_cut, cut_eq h, nuC_cut]
theorem gRow_cfg (h : cfg C C') : gRow F C' p = gRow F C p := by
  unfold gRow hRow s0
  rw [nuC_cfg h, h 27 (by omega), h 24 (by omega)]
theorem good_cfg (h : cfg C C') : good F C' A N t k c b = good F C A N t k c b := by
  unfold good ent brd hasR
  rw [nuC_cfg h, h 4 (by omega), h 3 (by omega), h 2 (by omega)]
theorem nbC_cfg (h : cfg C C') : nbC C' c k = nbC C c k := by
  unfold nbC opB
  rw [h 9 (by omega), h 2 (by omega)]
theorem tgt_cfg (h : cfg C C') : ∀ d, tgt F C' A N t k c d = tgt F C A N t k c d := by
  intro d
  induction d with
  | zero => rfl
  | succ d ih =>
    rw [tgt, tgt, nbC_cfg h]
    cases nbC C c (3 - d) with
    | none => exact ih
    | some b => dsimp only; rw [good_cfg h, ih]
theorem stp_cfg (h : cfg C C') : stp F C' t p b A = stp F C t p b A := by
  unfold stp mv
  rw [nuC_cfg h, gRow_cfg h, h 5 (by omega), h 25 (by omega)]
theorem go1_cfg (h : cfg C C') : go1 F C' t = go1 F C t := by
  funext z p
  unfold go1
  rw [gRow_cfg h, tgt_cfg h]
  cases tgt F C z.1 z.2 t (gRow F C p) (pA z.1 p) 4 with
  | none => rfl
  | some b => dsimp only; rw [stp_cfg h]
theorem ctI_cfg (h : cfg C C') : ∀ i, ctI C' t A i = ctI C t A i := by
  intro i
  induction i with
  | zero => rfl
  | succ i ih =>
    rw [ctI, ctI, ih]
    unfold brd
    rw [h 4 (by omega)]
theorem ordL_cfg (h : cfg C C') : ordL F C' A t k = ordL F C A t k := by
  unfold ordL
  congr 1
  funext l
  unfold Ord lx cand nuP
  simp only [nuC_cfg h, gRow_cfg h]
theorem sec_cfg (h : cfg C C') : sec F C' P t A = sec F C P t A := by
  unfold sec
  rw [ctI_cfg h, ordL_cfg h, go1_cfg h]
theorem runF_cfg (h : cfg C C') : ∀ d t A, runF F C' P d t A = runF F C P d t A := by
  intro d
  induction d with
  | zero => intro t A; rfl
  | succ d ih => intro t A; rw [runF, runF, sec_cfg h, ih]
theorem bgn_cfg (h : cfg C C') : bgn C' = bgn C := by
  unfold bgn
  rw [h 24 (by omega), h 28 (by omega), h 26 (by omega), h 25 (by omega)]
theorem fin_cfg (h : cfg C C') : fin F C' P = fin F C P := by
  unfold fin
  rw [bgn_cfg h, runF_cfg h]
theorem okP_cfg (h : cfg C C') (hP : okP F C P) : okP F C' P := by
  unfold okP at *
  rw [h 23 (by omega), h 24 (by omega), h 25 (by omega), h 26 (by omega), h 27 (by omega), h 28 (by omega), h 2 (by omega), h 1 (by omega)]
  exact hP
theorem sameN.cfg (h : sameN C C') : cfg C C' := fun k hk => h k (by omega) (by omega) (by omega)
/-- rowTo once more: what was known stays known -/
theorem Y_rowK {x : Int32} (hF : okF F) (hS : okS F C) (hN : okN F C) (he : e < 9) (hx : x + 1 = nI e)
    (kk : ∀ C', sameN C C' → okN F C' → C' 21 e = 1 → (∀ r, C 21 r = 1 → C' 21 r = 1) → Q (.inl (some (.ref (12 + e)))) (hp F C' J G)) :
    Y y_Numbers_rowTo [.ref 10, .int x] (hp F C J G) Q := by
  have hn := hF.n
  have hx2 : x = nI e - 1 := by rw [← hx, Int32.add_sub_cancel]
  unfold Y
  iterate 4 (refine X_s rfl rfl ?_)
  rw [show x + Int32.ofInt 1 = nI e from hx]
  iterate 3 (refine X_s rfl rfl ?_)
  refine X_lz (n := 9) (f := C 21) rfl rfl rfl he (by omega) ?_
  rcases hN e he with e0 | ⟨e1, hr⟩
  · rw [e0]
    refine X_bf rfl rfl rfl (fun h => h rfl) ?_
    iterate 5 (refine X_s rfl rfl ?_)
    refine X_ln rfl rfl rfl rfl rfl he (show 9 < 2 ^ 31 by omega) ?_
    refine X_c rfl rfl rfl rfl (Y_find (g := x) hF hS he) ?_ ?_
    · rintro v h' ⟨row, qf, ev, rfl, hrow⟩
      cases ev
      iterate 4 (refine X_s rfl rfl ?_)
      refine X_tn (n := 9) (c := fun k => mZ 9 (upd (hB C e row qf 21) k 1)) rfl rfl rfl rfl rfl rfl he (show 9 < 2 ^ 31 by omega) ?_
      refine X_h (hp_stz (k := 21) rfl rfl) ?_
      iterate 3 (refine X_s rfl rfl ?_)
      refine X_ln rfl rfl rfl rfl rfl he (show 9 < 2 ^ 31 by omega) ?_
      have hsm : sameN C (st (hB C e row qf) 21 e 1) := fun k k1 k2 k3 => by rw [st_f k1, hB_o (by omega) k2]
      have hrow' : st (hB C e row qf) 21 e 1 (12 + e) = row := by rw [st_f (by omega), hB_row he]
      refine X_r rfl rfl rfl rfl (kk _ hsm (fun r hr9 => ?_) st_s (fun r h => ?_))
      · by_cases er : r = e
        · subst er
          right
          refine ⟨by rw [st_s], ?_⟩
          rw [hrow', ← hx2]
          exact rowOk_same hsm hrow
        · have e21 : st (hB C e row qf) 21 e 1 21 r = C 21 r := by rw [st_i er, hB_o (by omega) (by omega)]
          have e12 : st (hB C e row qf) 21 e 1 (12 + r) = C (12 + r) := by rw [st_f (by omega), hB_o (by omega) (by omega)]
          rw [e21, e12]
          rcases hN r hr9 with q | ⟨q1, q2⟩
          · exact Or.inl q
          · exact Or.inr ⟨q1, rowOk_same hsm q2⟩
      · by_cases er : r = e
        · subst er; rw [st_s]
        · rw [st_i er, hB_o (by omega) (by omega)]; exact h
    · rintro v h' ⟨row, qf, ev, -⟩
      cases ev
  · rw [e1]
    refine X_bt rfl rfl rfl (show ¬ (1 : Int32) = 0 by decide) ?_
    iterate 3 (refine X_s rfl rfl ?_)
    refine X_ln rfl rfl rfl rfl rfl he (show 9 < 2 ^ 31 by omega) ?_
    exact X_r rfl rfl rfl rfl (kk C (sameN_rf C) hN e1 (fun _ h => h))
theorem Y_findAll_loop {m : Nat} (hF : okF F) (hm : m ≤ 8) (kk : ∀ C', sameN C C' → okN F C' → (∀ r, r ≤ m → C' 21 r = 1) → Q (.inl none) (hp F C' J G)) :
    ∀ d e C', e + d = m + 1 → okS F C' → C' 1 11 = nI m → sameN C C' → okN F C' → (∀ r, r < e → C' 21 r = 1) → X y_Numbers_findAll 2 [some (.ref 10), some (.int (nI e - 1))] [] (hp F C' J G) Q := by
  intro d
  induction d with
  | zero =>
    intro e C' hd hS h11 hs hN hr
    have : e = m + 1 := by omega
    subst this
    repeat (refine X_n rfl rfl rfl ?_)
    refine X_bt rfl rfl rfl (show C' 1 11 ≤ nI (m + 1) - 1 by rw [h11, nI_pred]; exact Int32.le_refl _) ?_
    exact X_r rfl rfl rfl rfl (kk C' hs hN (fun r hr' => hr r (by omega)))
  | succ d ih =>
    intro e C' hd hS h11 hs hN hr
    have hlt : ¬ C' 1 11 ≤ nI e - 1 := by
      rw [h11]
      cases e with
      | zero => exact fun h => absurd (Int32.le_trans (nI_pos' (n := m) (by omega)) h) (by decide)
      | succ e => rw [nI_pred]; exact nI_ge (by omega) (by omega)
    repeat (refine X_n rfl rfl rfl ?_)
    refine X_bf rfl rfl rfl hlt ?_
    repeat (refine X_n rfl rfl rfl ?_)
    refine X_k rfl rfl rfl rfl (Y_rowK hF hS hN (show e < 9 by omega) (Int32.sub_add_cancel ..) (fun C2 s2 n2 h2 k2 => ?_))
    dsimp only
    iterate 3 (refine X_n rfl rfl rfl ?_)
    rw [show nI e - 1 + Int32.ofInt 1 = nI (e + 1) - 1 from by rw [nI_pred]; exact Int32.sub_add_cancel ..]
    refine ih (e + 1) C2 (by omega) (okS_same s2 hS) (by rw [s2 1 (by omega) (by omega) (by omega)]; exact h11) (sameN_tr hs s2) n2 (fun r hr' => ?_)
    by_cases q : r = e
    · subst q; exact h2
    · exact k2 r (hr r (by omega))
theorem Y_findAll {m : Nat} (hF : okF F) (hS : okS F C) (hN : okN F C) (hm : m ≤ 8) (h11 : C 1 11 = nI m) (kk : ∀ C', sameN C C' → okN F C' → (∀ r, r ≤ m → C' 21 r = 1) → Q (.inl none) (hp F C' J G)) : Y y_Numbers_findAll [.ref 10] (hp F C J G) Q := by
  unfold Y
  iterate 2 (refine X_n rfl rfl rfl ?_)
  exact Y_findAll_loop hF hm kk (m + 1) 0 C (by omega) hS h11 (sameN_rf C) hN (fun r hr => by omega)
theorem hRow_le {m : Nat} (hP : okP F C P) (h11 : C 1 11 = nI m) (hm : m ≤ 8) (hp : p < P) : hRow C p ≤ m := by
  unfold hRow
  rcases (hP.2.2.1 p hp).2.2.2 with e | ⟨x, e, h8, hx⟩
  · rw [e]; exact Nat.zero_le _
  · rw [h11] at hx
    have := (nI_ltI (by omega) (by omega)).mp hx
    rw [e, nI_1, nI_clamp (by omega)]; omega
theorem rwC_of {m : Nat} (hF : okF F) (hS : okS F C) (hP : okP F C P) (hN : okN F C) (h11 : C 1 11 = nI m) (hm : m ≤ 8) (h : ∀ r, r ≤ m → C 21 r = 1) : rwC F C P := by
  have key : ∀ r, r ≤ m → ∀ c, c < F.1 * F.2.1 → C (12 + r) c = nuC F C r c := fun r hr c hc => by
    rcases hN r (by omega) with q | ⟨-, q⟩
    · rw [h r hr] at q; exact absurd q (by decide)
    · exact nuC_row hF hS (by omega) q hc
  intro p hp c hc
  have h1 := hRow_le hP h11 hm hp
  refine ⟨key _ ?_ c hc, key _ h1 c hc⟩
  unfold gRow
  by_cases q : nuC F C (hRow C p) (s0 C p) = -1
  · rw [m_if_t q]; exact Nat.zero_le _
  · rw [m_if_f q]; exact h1
theorem run_inv (hF : okF F) (hS : okS F C) (hP : okP F C P) : ∀ d t A, t + d = 3600 → inv F C P t A → inv F C P (runF F C P d t A).1 (runF F C P d t A).2 ∧ (runF F C P d t A).1 ≤ 3600 := by
  intro d
  induction d with
  | zero => intro t A h1 h2; exact ⟨h2, by show t ≤ 3600; omega⟩
  | succ d ih =>
    intro t A h1 h2
    rw [runF]
    by_cases hw : waits P A
    · rw [m_if_t hw]; exact ih (t + 1) _ (by omega) (sec_inv hF hS hP h2 (by omega))
    · rw [m_if_f hw]; exact ⟨h2, by show t ≤ 3600; omega⟩
theorem fin_inv (hF : okF F) (hS : okS F C) (hP : okP F C P) : inv F C P (fin F C P).1 (fin F C P).2 ∧ (fin F C P).1 ≤ 3600 := run_inv hF hS hP 3600 0 (bgn C) (by omega) (bgn_inv hF hS hP)
/-- what the class keeps of a run -/
def resC (F : Fx) (P : Nat) (C : Ct) : Prop := (∀ p, p < P → C 30 p = (fin F C P).2 0 p ∧ C 31 p = (fin F C P).2 1 p ∧ C 32 p = (fin F C P).2 2 p ∧ C 33 p = (fin F C P).2 3 p ∧ ∀ k, k < ((fin F C P).2 3 p).toNatClampNeg → C (39 + p) k = (fin F C P).2 7 (600 * p + k) ∧ C (100 + p) k = (fin F C P).2 8 (600 * p + k)) ∧ (∀ c, c < F.1 * F.2.1 → C 34 c = (fin F C P).2 6 c) ∧ C 29 8 = nI (fin F C P).1
theorem resC.same (h : resC F P C) (h1 : cfg C C') (h2 : ∀ k, 29 ≤ k → k ≤ 163 → C' k = C k) (hP : P ≤ 60) : resC F P C' := by
  unfold resC at *
  rw [fin_cfg h1, h2 29 (by omega) (by omega), h2 30 (by omega) (by omega), h2 31 (by omega) (by omega), h2 32 (by omega) (by omega), h2 33 (by omega) (by omega), h2 34 (by omega) (by omega)]
  refine ⟨fun p hp => ?_, h.2⟩
  rw [h2 (39 + p) (by omega) (by omega), h2 (100 + p) (by omega) (by omega)]
  exact h.1 p hp
/-- what a run leaves as it was -/
def sameR (C C' : Ct) : Prop := ∀ k, (k < 12 ∨ 22 < k) → (k < 29 ∨ 163 < k) → 0 < k → C' k = C k
theorem sameR.cfg (h : sameR C C') : cfg C C' := fun k hk => h k (by omega) (by omega) (by omega)
theorem okN_eq (h : okN F C) (h1 : cfg C C') (h2 : ∀ k, 12 ≤ k → k ≤ 21 → C' k = C k) : okN F C' := by
  intro r hr
  have hrow : ∀ g row, rowOk F C' g row = rowOk F C g row := fun g row => by
    have e : ∀ D : Ct, rowOk F D g row = rowOk F (cut D) g row := fun D => rfl
    rw [e C', e C, cut_eq h1]
  rw [h2 21 (by omega) (by omega), h2 (12 + r) (by omega) (by omega), hrow]
  exact h r hr
theorem Y_run {m : Nat} (hF : okF F) (hS : okS F C) (hN : okN F C) (hm : m ≤ 8) (h11 : C 1 11 = nI m) (hP : okP F C P) (hb : C 0 5 = 0 ∨ C 0 5 = 1)
    (k1 : C 0 5 = 1 → Q (.inl (some (.int (C 29 8)))) (hp F C J G))
    (k0 : C 0 5 = 0 → ∀ C', sameR C C' → C' 0 5 = 1 → okN F C' → resC F P C' → Q (.inl (some (.int (nI (fin F C P).1)))) (hp F C' J G)) :
    Y y_Esc_run [.ref 0] (hp F C J G) Q := by
  have hP60 := hP.1
  unfold Y
  rcases hb with e | e
  · repeat (refine X_n rfl rfl rfl ?_)
    refine X_bf rfl rfl rfl (show ¬ ¬ C 0 5 = 0 from fun h => h e) ?_
    repeat (refine X_n rfl rfl rfl ?_)
    refine X_k rfl rfl rfl rfl (Y_findAll hF hS hN hm h11 (fun C1 s1 n1 r1 => ?_))
    dsimp only
    have S1 := okS_same s1 hS
    have P1 := okP_cfg s1.cfg hP
    have e11 : C1 1 11 = nI m := by rw [s1 1 (by omega) (by omega) (by omega)]; exact h11
    repeat (refine X_n rfl rfl rfl ?_)
    refine X_k rfl rfl rfl rfl (Y_goAll hF S1 P1 (rwC_of hF S1 P1 n1 e11 hm r1) (fun C2 N2 hr2 hl2 hi2 ht2 => ?_))
    dsimp only
    repeat (refine X_n rfl rfl rfl ?_)
    refine X_s rfl rfl ?_
    refine X_h (hp_f0_5 rfl) ?_
    repeat (refine X_n rfl rfl rfl ?_)
    have c2 : cfg C1 (st C2 0 5 1) := fun k hk => by rw [st_f (by omega)]; exact hr2.1 k (by omega)
    have ef : fin F C1 P = fin F C P := fin_cfg s1.cfg
    have hk := k0 e (st C2 0 5 1) (fun k a b c => by rw [st_f (by omega), hr2.1 k b, s1 k (by omega) (by omega) (by omega)]) st_s (okN_eq n1 c2 (fun k a b => by rw [st_f (by omega)]; exact hr2.1 k (by omega))) (by
      unfold resC
      rw [fin_cfg c2]
      refine ⟨fun p hp => ?_, fun c hc => ?_, ?_⟩
      · obtain ⟨g0, g1, g2, g3, g4, g5, g6, g7⟩ := hr2.2.1 p hp
        rw [st_f (by omega), st_f (by omega), st_f (by omega), st_f (by omega), st_f (by omega), st_f (by omega)]
        exact ⟨g0, g1, g2, g3, g7⟩
      · rw [st_f (by omega)]; exact (hr2.2.2.1 c hc).2
      · rw [st_f (by omega)]; exact hl2)
    rw [← ef, ← hl2] at hk
    exact X_r rfl rfl rfl rfl hk
  · repeat (refine X_n rfl rfl rfl ?_)
    refine X_bt rfl rfl rfl (show ¬ C 0 5 = 0 from fun h => by rw [e] at h; exact absurd h (by decide)) ?_
    repeat (refine X_n rfl rfl rfl ?_)
    exact X_r rfl rfl rfl rfl (k1 e)
end
end
section
/-! the reference's run: its contents and the run's state -/
def whN (r : Nat) : Nat := if r = 0 then 8 else r - 1
/-- what the reference has of the storey and its people -/
def mcf (F : Fx) (C : Ct) (P : Nat) : Prop := rS F C ∧ C 169 9 = nI P ∧
  (∀ p, p < P → C 175 p = nI (cm F (s0 C p)) ∧ C 176 p = C 25 p ∧ C 177 p = C 26 p ∧ C 178 p = C 27 p) ∧
  ∀ c, c < F.1 * F.2.1 → C 173 (cm F c) = C 4 c ∧ (C 4 c = -1 ∨ 0 ≤ C 4 c) ∧ ((hasR C c ∧ C 172 (cm F c) = C 3 c ∧ ¬ C 3 c = 0) ∨ (¬ hasR C c ∧ C 172 (cm F c) = 0))
/-- its numbers are found -/
def mnu (F : Fx) (C : Ct) : Prop := ∀ r, r < 9 → ∀ c, c < F.1 * F.2.1 → C 179 (576 * whN r + cm F c) = nuC F C r c
def repQ (F : Fx) (A C : Ct) (p : Nat) : Prop := C 181 p = A 0 p ∧ C 182 p = A 1 p ∧ C 183 p = A 2 p ∧ C 184 p = A 3 p ∧ (A 0 p = 0 → C 187 p = nI (cm F (pA A p))) ∧ ∀ k, k < (A 3 p).toNatClampNeg → C 185 (600 * p + k) = A 7 (600 * p + k) ∧ C 186 (600 * p + k) = nI (cm F (A 8 (600 * p + k)).toNatClampNeg)
def repM (F : Fx) (C0 : Ct) (P : Nat) (u18 : Int32) (N : Nat → Int32) (A C : Ct) : Prop :=
  ((∀ k, k < 181 ∨ 191 < k → k ≠ 169 → C k = C0 k) ∧ ∀ j, C 169 j = if j = 18 then u18 else C0 169 j) ∧ (∀ p, p < P → repQ F A C p) ∧
  ∀ c, c < F.1 * F.2.1 → C 188 (cm F c) = A 5 c ∧ C 189 (cm F c) = A 6 c ∧ C 190 (cm F c) = N c
def stpM (F : Fx) (C : Ct) (p b k c t : Nat) : Ct := st (st (st (st (st (st C 188 (cm F c) (-1)) 190 (cm F b) (C 190 (cm F b) + 1)) 189 (cm F b) (C 189 (cm F b) + 1)) 185 (600 * p + k) (nI t)) 186 (600 * p + k) (nI (cm F b))) 184 p (nI k + 1)
section
variable {F : Fx} {C0 A C : Ct} {P t p b k c : Nat} {N : Nat → Int32} {u18 : Int32} {J : Nat → Int64} {G : Ex} {Q : mE → mH → Prop}
theorem whN_le {r : Nat} (h : r < 9) : whN r ≤ 8 := by unfold whN; split <;> omega
theorem whN_gw {r : Nat} (h : r < 9) : gw (nI r - 1) (whN r) := by
  unfold whN gw
  by_cases e : r = 0
  · subst e; rw [if_pos rfl]; exact Or.inl ⟨by decide, rfl⟩
  · rw [if_neg e]
    right
    refine ⟨?_, by omega⟩
    obtain ⟨r', rfl⟩ : ∃ r', r = r' + 1 := ⟨r - 1, by omega⟩
    rw [nI_pred]; rfl
theorem cm_eqP (hF : okF F) (hc : c < F.1 * F.2.1) (hb : b < F.1 * F.2.1) : (cm F c = cm F b) = (c = b) := by
  rw [eq_iff_iff]; exact ⟨cm_inj hF hc hb, fun e => by rw [e]⟩
theorem repM.in (h : repM F C0 P u18 N A C) (hc : mcf F C0 P) : C 169 9 = nI P := ((h.1.2 9).trans (if_neg (by omega))).trans hc.2.1
/-- a step: what it is in the reference's contents -/
theorem repM_stp (h : repM F C0 P u18 N A C) (hi : inv F C0 P t A) (hF : okF F) (hP : P ≤ 60) (hp : p < P) (hc : A 4 p = nI c) (hcn : c < F.1 * F.2.1) (hb : b < F.1 * F.2.1) (hk : A 3 p = nI k) (hkn : k < F.1 * F.2.1) (x : Int32) :
    (nuC F C0 (gRow F C0 p) b = 0 → repM F C0 P u18 (upd N b (N b + 1)) (stp F C0 t p b A) (st (st (st (st (stpM F C p b k c t) 181 p 1) 182 p (nI t)) 183 p (C0 5 b)) 187 p x)) ∧
    (¬ nuC F C0 (gRow F C0 p) b = 0 → A 0 p = 0 → repM F C0 P u18 (upd N b (N b + 1)) (stp F C0 t p b A) (st (st (stpM F C p b k c t) 187 p (nI (cm F b))) 188 (cm F b) (nI p))) := by
  have hn := hF.n
  obtain ⟨⟨h1, h1'⟩, h2, h3⟩ := h
  have ek : (A 3 p).toNatClampNeg = k := by rw [hk, nI_clamp (by omega)]
  have ec : pA A p = c := pA_eq hF hcn hc
  have eb : (nI b).toNatClampNeg = b := nI_clamp (by omega)
  have ek1 : (nI (k + 1)).toNatClampNeg = k + 1 := nI_clamp (by omega)
  refine ⟨fun ho => ?_, fun ho h0 => ?_⟩
  · unfold stp
    rw [m_if_t ho]
    refine ⟨⟨fun k hk h169 => ?_, fun j => ?_⟩, fun q hq => ?_, fun d hd => ?_⟩
    · rw [← h1 k hk h169]
      unfold stpM
      rw [st_f (by omega), st_f (by omega), st_f (by omega), st_f (by omega), st_f (by omega), st_f (by omega), st_f (by omega), st_f (by omega), st_f (by omega), st_f (by omega)]
    · rw [← h1' j]
      unfold stpM
      rw [st_f (by omega), st_f (by omega), st_f (by omega), st_f (by omega), st_f (by omega), st_f (by omega), st_f (by omega), st_f (by omega), st_f (by omega), st_f (by omega)]
    · obtain ⟨g0, g1, g2, g3, g4, g5⟩ := h2 q hq
      unfold stpM mv repQ pA
      rw [ek]
      by_cases e : q = p
      · subst e
        refine ⟨by simp [st_r], by simp [st_r], by simp [st_r], by simp [st_r, hk], fun h => ?_, fun j hj => ?_⟩
        · exact absurd h (by simp [st_r])
        · have hj : j < k + 1 := by simpa [st_r, hk, nI_1, ek1] using hj
          by_cases ej : j = k
          · subst ej; simp [st_r, eb]
          · simpa [st_r, ej] using g5 j (by rw [ek]; omega)
      · refine ⟨by simpa [st_r, e] using g0, by simpa [st_r, e] using g1, by simpa [st_r, e] using g2, by simpa [st_r, e] using g3, fun h => ?_, fun j hj => ?_⟩
        · have h : A 0 q = 0 := by simpa [st_r, e] using h
          simpa [st_r, e, pA] using g4 h
        · obtain ⟨-, ⟨kq, kq1, kq2, -⟩, -⟩ := hi.1 q hq
          have hj : j < (A 3 q).toNatClampNeg := by simpa [st_r, e] using hj
          have hjn : j < 576 := by rw [kq1, nI_clamp (by omega)] at hj; omega
          have z1 : (600 * q + j = 600 * p + k) = False := by rw [eq_iff_iff]; exact ⟨fun e => by omega, fun e => e.elim⟩
          simpa [st_r, z1] using g5 j hj
    · obtain ⟨g1, g2, g3⟩ := h3 d hd
      have e1 := cm_eqP hF hd hcn
      have e2 := cm_eqP hF hd hb
      unfold stpM mv upd
      rw [ec]
      refine ⟨by simp [st_r, e1, g1], ?_, ?_⟩
      · by_cases q : d = b
        · subst q; simp [st_r, g2]
        · simpa [st_r, e2, q] using g2
      · by_cases q : d = b
        · subst q; simp [st_r, g3]
        · simpa [st_r, e2, q] using g3
  · unfold stp
    rw [m_if_f ho]
    refine ⟨⟨fun k hk h169 => ?_, fun j => ?_⟩, fun q hq => ?_, fun d hd => ?_⟩
    · rw [← h1 k hk h169]
      unfold stpM
      rw [st_f (by omega), st_f (by omega), st_f (by omega), st_f (by omega), st_f (by omega), st_f (by omega), st_f (by omega), st_f (by omega)]
    · rw [← h1' j]
      unfold stpM
      rw [st_f (by omega), st_f (by omega), st_f (by omega), st_f (by omega), st_f (by omega), st_f (by omega), st_f (by omega), st_f (by omega)]
    · obtain ⟨g0, g1, g2, g3, g4, g5⟩ := h2 q hq
      unfold stpM mv repQ pA
      rw [ek]
      by_cases e : q = p
      · subst e
        refine ⟨by simpa [st_r] using g0, by simpa [st_r] using g1, by simpa [st_r] using g2, by simp [st_r, hk], fun h => ?_, fun j hj => ?_⟩
        · simp [st_r, eb]
        · have hj : j < k + 1 := by simpa [st_r, hk, nI_1, ek1] using hj
          by_cases ej : j = k
          · subst ej; simp [st_r, eb]
          · simpa [st_r, ej] using g5 j (by rw [ek]; omega)
      · refine ⟨by simpa [st_r, e] using g0, by simpa [st_r, e] using g1, by simpa [st_r, e] using g2, by simpa [st_r, e] using g3, fun h => ?_, fun j hj => ?_⟩
        · have h : A 0 q = 0 := by simpa [st_r, e] using h
          simpa [st_r, e, pA] using g4 h
        · obtain ⟨-, ⟨kq, kq1, kq2, -⟩, -⟩ := hi.1 q hq
          have hj : j < (A 3 q).toNatClampNeg := by simpa [st_r, e] using hj
          have hjn : j < 576 := by rw [kq1, nI_clamp (by omega)] at hj; omega
          have z1 : (600 * q + j = 600 * p + k) = False := by rw [eq_iff_iff]; exact ⟨fun e => by omega, fun e => e.elim⟩
          simpa [st_r, z1] using g5 j hj
    · obtain ⟨g1, g2, g3⟩ := h3 d hd
      have e1 := cm_eqP hF hd hcn
      have e2 := cm_eqP hF hd hb
      unfold stpM mv upd
      rw [ec]
      refine ⟨by simp [st_r, e1, e2, g1], ?_, ?_⟩
      · by_cases q : d = b
        · subst q; simp [st_r, g2]
        · simpa [st_r, e2, q] using g2
      · by_cases q : d = b
        · subst q; simp [st_r, g3]
        · simpa [st_r, e2, q] using g3
end
end
section
/-! the reference's run: a step -/
section
variable {F : Fx} {C0 A C : Ct} {P t p b k c : Nat} {N : Nat → Int32} {u18 : Int32} {J : Nat → Int64} {G : Ex} {Q : mE → mH → Prop}
theorem nI_neg1 {x : Int32} (h : x = -1 ∨ ∃ d, d < 576 ∧ x = nI d) : (x < 0 ↔ x = -1) ∧ (0 ≤ x ↔ ¬ x = -1) := by
  rcases h with e | ⟨d, hd, e⟩
  · rw [e]; decide
  · have h1 : ¬ nI d < 0 := nI_pos (by omega)
    have h2 : 0 ≤ nI d := nI_pos' (by omega)
    have h3 : ¬ nI d = -1 := nI_nm1 (by omega)
    rw [e]
    exact ⟨⟨fun h => absurd h h1, fun h => absurd h h3⟩, ⟨fun _ => h3, fun _ => h2⟩⟩
theorem nu_sg (hF : okF F) (hS : okS F C) {r c : Nat} (hr : r < 9) (hc : c < F.1 * F.2.1) : (nuC F C r c < 0 ↔ nuC F C r c = -1) ∧ (0 ≤ nuC F C r c ↔ ¬ nuC F C r c = -1) := by
  have hn := hF.n
  refine nI_neg1 ?_
  rcases nu_or hF hS hr hc with e | ⟨d, hd, e⟩
  · exact Or.inl e
  · exact Or.inr ⟨d, by omega, e⟩
theorem repM.nu (h : repM F C0 P u18 N A C) (hm : mnu F C0) {r : Nat} (hr : r < 9) (hc : c < F.1 * F.2.1) : C 179 (576 * whN r + cm F c) = nuC F C0 r c := by
  rw [h.1.1 179 (by omega) (by omega)]; exact hm r hr c hc
theorem Y_mnum (hF : okF F) (h : repM F C0 P u18 N A C) (hm : mnu F C0) {r : Nat} (hr : r < 9) (hc : c < F.1 * F.2.1) : Yd y_Model_numberOf [.ref 169, .int (nI (whN r)), .int (nI (cm F c))] (hp F C J G) (.inl (some (.int (nuC F C0 r c)))) (hp F C J G) := by
  rw [← h.nu hm hr hc]
  exact Y_numberOf (whN_le hr) (cm_in hF hc).2.2.2
theorem Y_goal (hF : okF F) (hS : okS F C0) (hP : okP F C0 P) (hc : mcf F C0 P) (hm : mnu F C0) (h : repM F C0 P u18 N A C) (hi : inv F C0 P t A) (hpP : p < P) (h0 : A 0 p = 0) : Yd y_Model_goal [.ref 169, .int (nI p)] (hp F C J G) (.inl (some (.int (nI (whN (gRow F C0 p)))))) (hp F C J G) := by
  refine Yd_of (fun Q kk => ?_)
  have hn := hF.n
  have hP60 := hP.1
  obtain ⟨⟨c, c1, c2, c3, c4⟩, -, -⟩ := hi.1 p hpP
  have ec := pA_eq hF c1 c2
  obtain ⟨g0, g1, g2, g3, g4, g5⟩ := h.2.1 p hpP
  have g4 := g4 h0
  rw [ec] at g4
  have e178 : C 178 p = C0 27 p := by rw [h.1.1 178 (by omega) (by omega)]; exact (hc.2.2.1 p hpP).2.2.2
  have hh := hRow_lt hP hpP
  have hc4 := c4 _ hh
  unfold gRow at kk
  rcases (hP.2.2.1 p hpP).2.2.2 with e | ⟨x, e, h8, -⟩
  · have hr0 : hRow C0 p = 0 := by unfold hRow; rw [e]; decide
    have kk : Q (.inl (some (.int (nI (whN 0))))) (hp F C J G) := by
      rw [hr0] at kk
      by_cases q : nuC F C0 0 (s0 C0 p) = -1
      · rw [m_if_t q] at kk; exact kk
      · rw [m_if_f q] at kk; exact kk
    unfold Y
    repeat (refine X_n rfl rfl rfl ?_)
    refine X_la rfl rfl rfl hF (show p < 60 by omega) ?_
    refine X_top (e178.trans e) ?_
    refine X_bt rfl rfl rfl (show (-1 : Int32) < 0 by decide) ?_
    repeat (refine X_n rfl rfl rfl ?_)
    refine X_bt rfl rfl rfl rfl ?_
    repeat (refine X_n rfl rfl rfl ?_)
    exact X_r rfl rfl rfl rfl kk
  · have hr1 : hRow C0 p = x + 1 := by unfold hRow; rw [e, nI_1, nI_clamp (by omega)]
    have hw : whN (x + 1) = x := rfl
    rw [hr1] at kk hc4 hh
    unfold Y
    repeat (refine X_n rfl rfl rfl ?_)
    refine X_la rfl rfl rfl hF (show p < 60 by omega) ?_
    refine X_top (e178.trans e) ?_
    refine X_bf rfl rfl rfl (nI_pos (by omega)) ?_
    repeat (refine X_n rfl rfl rfl ?_)
    refine X_la rfl rfl rfl hF (show p < 60 by omega) ?_
    refine X_top (e178.trans e) ?_
    repeat (refine X_n rfl rfl rfl ?_)
    refine X_la rfl rfl rfl hF (show p < 60 by omega) ?_
    refine X_top g4 ?_
    refine X_cd rfl rfl rfl rfl (hw ▸ Y_mnum (r := x + 1) hF h hm hh c1) ?_
    refine X_b rfl rfl rfl (fun q => ?_) (fun q => ?_)
    · have q := hc4.mp ((nu_sg hF hS hh c1).1.mp q)
      rw [m_if_t q] at kk
      repeat (refine X_n rfl rfl rfl ?_)
      refine X_bt rfl rfl rfl rfl ?_
      repeat (refine X_n rfl rfl rfl ?_)
      exact X_r rfl rfl rfl rfl kk
    · have q : ¬ nuC F C0 (x + 1) (s0 C0 p) = -1 := fun e => q ((nu_sg hF hS hh c1).1.mpr (hc4.mpr e))
      rw [m_if_f q] at kk
      repeat (refine X_n rfl rfl rfl ?_)
      refine X_bf rfl rfl rfl (show ¬ (1 : Int32) = 0 by decide) ?_
      repeat (refine X_n rfl rfl rfl ?_)
      refine X_la rfl rfl rfl hF (show p < 60 by omega) ?_
      refine X_top (e178.trans e) ?_
      repeat (refine X_n rfl rfl rfl ?_)
      exact X_r rfl rfl rfl rfl kk
theorem nI_sub {a b : Nat} (h : b ≤ a) : nI a - nI b = nI (a - b) := by
  have : nI a = nI (a - b) + nI b := by rw [nI_add]; congr 1; omega
  rw [this, Int32.add_sub_cancel]
theorem e600 (p k : Nat) : (Int16.ofInt 600).toInt32 * nI p + nI k = nI (600 * p + k) := by
  rw [show (Int16.ofInt 600).toInt32 = nI 600 from by decide, pk_mul, nI_add]
theorem Y_maySteps (hF : okF F) (hP : okP F C0 P) (hc : mcf F C0 P) (h : repM F C0 P u18 N A C) (hi : inv F C0 P t A) (ht : t ≤ 3600) (hpP : p < P) : Yd y_Model_maySteps [.ref 169, .int (nI p), .int (nI t)] (hp F C J G) (.inl (some (.int (bI (decide (A 9 p ≤ nI t)))))) (hp F C J G) := by
  refine Yd_of (fun Q kk => ?_)
  have hn := hF.n
  have hP60 := hP.1
  obtain ⟨-, ⟨k, k1, k2, k3, f, a, a1, a2, a3, a4, a5⟩, -⟩ := hi.1 p hpP
  obtain ⟨g0, g1, g2, g3, -, g5⟩ := h.2.1 p hpP
  have ek : (A 3 p).toNatClampNeg = k := by rw [k1, nI_clamp (by omega)]
  have e177 : C 177 p = C0 26 p := by rw [h.1.1 177 (by omega) (by omega)]; exact (hc.2.2.1 p hpP).2.2.1
  have e176 : C 176 p = nI a := by rw [h.1.1 176 (by omega) (by omega)]; exact ((hc.2.2.1 p hpP).2.1).trans a3
  have e184 : C 184 p = nI k := g3.trans k1
  have hf : f ≤ 3600 := by rcases a5 with g | g <;> omega
  -- the tail: f is the second to count from, d the delay
  have tail : ∀ d, d ≤ 3600 → C0 26 p = nI d → (f + a ≤ t → d < t) → (d < t → f ≤ t) → ∀ w, w = nI f → X y_Model_maySteps 37 [some (.ref 169), some (.int (nI p)), some (.int (nI t)), none] [.int w] (hp F C J G) Q := by
    intro d hd ed hda hdt w ew
    subst ew
    rw [a4] at kk
    repeat (refine X_n rfl rfl rfl ?_)
    refine X_la rfl rfl rfl hF (show p < 60 by omega) ?_
    refine X_top (e177.trans ed) ?_
    refine X_b rfl rfl rfl (fun q => ?_) (fun q => ?_)
    · have q : t ≤ d := (nI_leI (by omega) (by omega)).mp q
      rw [decide_eq_false (fun g => by have := (nI_leI (by omega) (by omega)).mp g; have := hda this; omega)] at kk
      repeat (refine X_n rfl rfl rfl ?_)
      exact X_r rfl rfl rfl rfl kk
    · have q : d < t := by
        rcases Nat.lt_or_ge d t with g | g
        · exact g
        · exact absurd (nI_le g (by omega)) q
      have hft := hdt q
      iterate 3 (refine X_n rfl rfl rfl ?_)
      refine X_top (nI_sub hft) ?_
      repeat (refine X_n rfl rfl rfl ?_)
      refine X_la rfl rfl rfl hF (show p < 60 by omega) ?_
      refine X_top e176 ?_
      refine X_b rfl rfl rfl (fun q2 => ?_) (fun q2 => ?_)
      · have q2 : t - f < a := (nI_ltI (by omega) (by omega)).mp q2
        rw [decide_eq_false (fun g => by have := (nI_leI (by omega) (by omega)).mp g; omega)] at kk
        repeat (refine X_n rfl rfl rfl ?_)
        exact X_r rfl rfl rfl rfl kk
      · have q2 : ¬ t - f < a := fun g => q2 (nI_lt g (by omega))
        rw [decide_eq_true (nI_le (by omega) (by omega))] at kk
        repeat (refine X_n rfl rfl rfl ?_)
        exact X_r rfl rfl rfl rfl kk
  unfold Y
  repeat (refine X_n rfl rfl rfl ?_)
  refine X_la rfl rfl rfl hF (show p < 60 by omega) ?_
  refine X_top e184 ?_
  rcases a5 with ⟨e0, f6, ef⟩ | ⟨e0, e7, ft, d, ed, df⟩
  · subst e0
    refine X_bf rfl rfl rfl (fun h => h rfl) ?_
    repeat (refine X_n rfl rfl rfl ?_)
    refine X_la rfl rfl rfl hF (show p < 60 by omega) ?_
    iterate 1 (refine X_n rfl rfl rfl ?_)
    exact tail f hf ef (by omega) (by omega) _ (e177.trans ef)
  · refine X_bt rfl rfl rfl (show ¬ nI k = 0 from fun e => by have := (nI_eq (b := 0) (by omega) (by omega)).mp e; omega) ?_
    repeat (refine X_n rfl rfl rfl ?_)
    refine X_la rfl rfl rfl hF (show p < 60 by omega) ?_
    refine X_top e184 ?_
    repeat (refine X_n rfl rfl rfl ?_)
    obtain ⟨k', rfl⟩ : ∃ k', k = k' + 1 := ⟨k - 1, by omega⟩
    refine X_la (k := 600 * p + k') rfl rfl ?_ hF (show 600 * p + k' < 36000 by omega) ?_
    · rw [e600, ← Nat.add_assoc]; exact nI_pred _
    · exact tail d (by omega) ed (by omega) (fun _ => ft) _ ((g5 k' (by omega)).1.trans e7)
theorem Y_mstep {out : Int32} (hF : okF F) (hp60 : p < 60) (hb : b < F.1 * F.2.1) (hc : c < F.1 * F.2.1) (hk : k < 600) (e1 : C 187 p = nI (cm F c)) (e2 : C 184 p = nI k)
    (kt : Q (.inl none) (hp F (st (st (st (st (stpM F C p b k c t) 181 p 1) 182 p (nI t)) 183 p (C 171 (cm F b))) 187 p (-1)) J G) ∨ out = 0)
    (kf : Q (.inl none) (hp F (st (st (stpM F C p b k c t) 187 p (nI (cm F b))) 188 (cm F b) (nI p)) J G) ∨ out = 1) (ho : out = 0 ∨ out = 1) :
    Y y_Model_step [.ref 169, .int (nI p), .int (nI t), .int (nI (cm F b)), .int out] (hp F C J G) Q := by
  have hb5 := (cm_in hF hb).2.2.2
  have hc5 := (cm_in hF hc).2.2.2
  have hx : 600 * p + k < 36000 := by omega
  unfold Y
  repeat (refine X_n rfl rfl rfl ?_)
  refine X_la rfl rfl rfl hF (show p < 60 from hp60) ?_
  repeat (refine X_n rfl rfl rfl ?_)
  refine X_sa (k := cm F c) rfl rfl e1 hF (show _ < 576 from hc5) ?_
  repeat (refine X_n rfl rfl rfl ?_)
  refine X_la rfl rfl rfl hF (show cm F b < 576 from hb5) ?_
  repeat (refine X_n rfl rfl rfl ?_)
  refine X_sa rfl rfl rfl hF (show cm F b < 576 from hb5) ?_
  repeat (refine X_n rfl rfl rfl ?_)
  refine X_la rfl rfl rfl hF (show cm F b < 576 from hb5) ?_
  repeat (refine X_n rfl rfl rfl ?_)
  refine X_sa rfl rfl rfl hF (show cm F b < 576 from hb5) ?_
  repeat (refine X_n rfl rfl rfl ?_)
  refine X_la rfl rfl rfl hF (show p < 60 from hp60) ?_
  refine X_top (w := nI k) e2 ?_
  repeat (refine X_n rfl rfl rfl ?_)
  refine X_sa (k := 600 * p + k) rfl rfl (e600 p k) hF (show _ < 36000 from hx) ?_
  repeat (refine X_n rfl rfl rfl ?_)
  refine X_la rfl rfl rfl hF (show p < 60 from hp60) ?_
  refine X_top (w := nI k) e2 ?_
  repeat (refine X_n rfl rfl rfl ?_)
  refine X_sa (k := 600 * p + k) rfl rfl (e600 p k) hF (show _ < 36000 from hx) ?_
  repeat (refine X_n rfl rfl rfl ?_)
  refine X_la rfl rfl rfl hF (show p < 60 from hp60) ?_
  refine X_top (w := nI k) e2 ?_
  repeat (refine X_n rfl rfl rfl ?_)
  refine X_sa rfl rfl rfl hF (show p < 60 from hp60) ?_
  rcases ho with e | e
  · subst e
    have kf := kf.resolve_right (by decide)
    repeat (refine X_n rfl rfl rfl ?_)
    refine X_bt rfl rfl rfl rfl ?_
    repeat (refine X_n rfl rfl rfl ?_)
    refine X_sa rfl rfl rfl hF (show p < 60 from hp60) ?_
    repeat (refine X_n rfl rfl rfl ?_)
    refine X_sa rfl rfl rfl hF (show cm F b < 576 from hb5) ?_
    exact X_r rfl rfl rfl rfl kf
  · subst e
    have kt := kt.resolve_right (by decide)
    repeat (refine X_n rfl rfl rfl ?_)
    refine X_bf rfl rfl rfl (show ¬ (1 : Int32) = 0 by decide) ?_
    repeat (refine X_n rfl rfl rfl ?_)
    refine X_sa rfl rfl rfl hF (show p < 60 from hp60) ?_
    repeat (refine X_n rfl rfl rfl ?_)
    refine X_sa rfl rfl rfl hF (show p < 60 from hp60) ?_
    repeat (refine X_n rfl rfl rfl ?_)
    refine X_la rfl rfl rfl hF (show cm F b < 576 from hb5) ?_
    refine X_sa rfl rfl rfl hF (show p < 60 from hp60) ?_
    repeat (refine X_n rfl rfl rfl ?_)
    refine X_sa rfl rfl rfl hF (show p < 60 from hp60) ?_
    repeat (refine X_n rfl rfl rfl ?_)
    exact X_r rfl rfl rfl rfl kt
theorem nbM_bs {m w : Nat} : nbM F C m w = match bsN F m w with | some d => (if C 170 d = 0 then some d else none) | none => none := rfl
theorem Y_mgo_loop (hF : okF F) (hS : okS F C0) (hg : okG F C0) (hP : okP F C0 P) (hmc : mcf F C0 P) (hm : mnu F C0) (hr : repM F C0 P u18 N A C) (hi : inv F C0 P t A) (ht : t ≤ 3600) (hpP : p < P) (h0 : A 0 p = 0) (hc : A 4 p = nI c) (hcn : c < F.1 * F.2.1) (hk : A 3 p = nI k) (hkn : k < F.1 * F.2.1)
    (kn : tgt F C0 A N t (gRow F C0 p) c 4 = none → Q (.inl none) (hp F C J G))
    (ky : ∀ b C', tgt F C0 A N t (gRow F C0 p) c 4 = some b → repM F C0 P u18 (upd N b (N b + 1)) (stp F C0 t p b A) C' → C' 191 = C 191 → Q (.inl none) (hp F C' J G)) :
    ∀ d x6 x7, d ≤ 4 → tgt F C0 A N t (gRow F C0 p) c 4 = tgt F C0 A N t (gRow F C0 p) c d → X y_Model_go 22 [some (.ref 169), some (.int (nI p)), some (.int (nI t)), some (.int (nI (whN (gRow F C0 p)))), some (.int (nuC F C0 (gRow F C0 p) c)), some (.int (nI (4 - d))), x6, x7] [] (hp F C J G) Q := by
  have hn := hF.n
  have hP60 := hP.1
  have hg9 := gRow_lt hP hpP
  have hc5 := (cm_in hF hcn).2.2.2
  obtain ⟨g0, g1, g2, g3, g4, g5⟩ := hr.2.1 p hpP
  have g4 := g4 h0
  rw [pA_eq hF hcn hc] at g4
  intro d
  induction d with
  | zero =>
    intro x6 x7 _ e
    repeat (refine X_n rfl rfl rfl ?_)
    refine X_bt rfl rfl rfl (Int32.le_refl _) ?_
    exact X_r rfl rfl rfl rfl (kn (e.trans rfl))
  | succ d ih =>
    intro x6 x7 hd e
    rw [show 4 - (d + 1) = 3 - d by omega]
    have nx : tgt F C0 A N t (gRow F C0 p) c (d + 1) = tgt F C0 A N t (gRow F C0 p) c d → ∀ x6 x7, X y_Model_go 154 [some (.ref 169), some (.int (nI p)), some (.int (nI t)), some (.int (nI (whN (gRow F C0 p)))), some (.int (nuC F C0 (gRow F C0 p) c)), some (.int (nI (3 - d))), x6, x7] [] (hp F C J G) Q := by
      intro e2 x6 x7
      iterate 2 (refine X_n rfl rfl rfl ?_)
      rw [nI_1', show 3 - d + 1 = 4 - d by omega]
      exact ih x6 x7 (by omega) (e.trans e2)
    -- b is no cell to step to
    have far : tgt F C0 A N t (gRow F C0 p) c (d + 1) = tgt F C0 A N t (gRow F C0 p) c d → ∀ x6 x7, X y_Model_go 73 [some (.ref 169), some (.int (nI p)), some (.int (nI t)), some (.int (nI (whN (gRow F C0 p)))), some (.int (nuC F C0 (gRow F C0 p) c)), some (.int (nI (3 - d))), x6, x7] [] (hp F C J G) Q := by
      intro e2 x6 x7
      repeat (refine X_n rfl rfl rfl ?_)
      refine X_bt rfl rfl rfl rfl ?_
      exact nx e2 _ _
    repeat (refine X_n rfl rfl rfl ?_)
    refine X_bf rfl rfl rfl (show ¬ nI 4 ≤ nI (3 - d) from nI_ge (by omega) (by omega)) ?_
    repeat (refine X_n rfl rfl rfl ?_)
    refine X_la rfl rfl rfl hF (show p < 60 by omega) ?_
    refine X_top g4 ?_
    repeat (refine X_n rfl rfl rfl ?_)
    refine X_cd rfl rfl rfl rfl (Y_beside (c := cm F c) (w := 3 - d) (by omega) (by omega)) ?_
    rw [bsI_eq hF hc5 (show 3 - d < 4 by omega)]
    have hiso := nb_iso hF hg hmc.1 hcn (show 3 - d < 4 by omega)
    rw [nbM_bs] at hiso
    cases hbs : bsN F (cm F c) (3 - d) with
    | none =>
      rw [hbs] at hiso
      dsimp only
      repeat (refine X_n rfl rfl rfl ?_)
      refine X_bt rfl rfl rfl (show (-1 : Int32) < 0 by decide) ?_
      refine far ?_ _ _
      rw [tgt, hiso]; rfl
    | some m =>
      rw [hbs] at hiso
      dsimp only at hiso ⊢
      obtain ⟨hms, hm5⟩ := bsN_in hF hbs
      have hb := mc_lt hF hms
      have ecm := cm_mc hF hms
      generalize mc F m = b at *
      subst ecm
      have hwall := (hmc.1.1 b hb).1
      have e170 : C 170 (cm F b) = if C0 2 b = 1 then 1 else 0 := by rw [hr.1.1 170 (by omega) (by omega)]; exact hwall
      have hnb : nbC C0 c (3 - d) = if C0 2 b = 1 then none else some b := by
        rw [hiso, hwall]
        by_cases q : C0 2 b = 1
        · rw [if_pos q, if_pos q, if_neg (by decide)]; rfl
        · rw [if_neg q, if_neg q, if_pos rfl]
          show some (mc F (cm F b)) = some b
          rw [mc_cm hF hb]
      have hskip : ¬ (¬ C0 2 b = 1 ∧ good F C0 A N t (gRow F C0 p) c b) → tgt F C0 A N t (gRow F C0 p) c (d + 1) = tgt F C0 A N t (gRow F C0 p) c d := by
        intro q
        rw [tgt, hnb]
        by_cases w : C0 2 b = 1
        · rw [if_pos w]
        · rw [if_neg w]; exact m_if_f (fun g => q ⟨w, g⟩)
      obtain ⟨r5, r6, r7⟩ := hr.2.2 b hb
      obtain ⟨b1, b2, b3⟩ := hmc.2.2.2 b hb
      have e173 : C 173 (cm F b) = C0 4 b := by rw [hr.1.1 173 (by omega) (by omega)]; exact b1
      have e172 : C 172 (cm F b) = C0 172 (cm F b) := by rw [hr.1.1 172 (by omega) (by omega)]
      have e171 : C 171 (cm F b) = C0 5 b := by rw [hr.1.1 171 (by omega) (by omega)]; exact (hmc.1.1 b hb).2
      have h188 : (A 5 b < 0 ↔ A 5 b = -1) ∧ (0 ≤ A 5 b ↔ ¬ A 5 b = -1) := nI_neg1 (by
        rcases hi.2 b hb with g | ⟨q, g1, g2⟩
        · exact Or.inl g
        · exact Or.inr ⟨q, by omega, g2⟩)
      have hbr : (0 ≤ C 173 (cm F b) ∧ C 173 (cm F b) ≤ nI t) ↔ brd C0 b t := by
        rw [e173]
        unfold brd
        rcases b2 with g | g
        · rw [g]; exact ⟨fun h => absurd h.1 (by decide), fun h => absurd rfl h.1⟩
        · exact ⟨fun h => ⟨fun e => by rw [e] at g; exact absurd g (by decide), h.2⟩, fun h => ⟨g, h.2⟩⟩
      have hgz : glM C (whN (gRow F C0 p)) (cm F b) ↔ nuC F C0 (gRow F C0 p) b = 0 := by
        rw [nu_zero hF hS hg9 hb, gl_iso hF hS hmc.1 (whN_gw hg9) hb]
        unfold glM
        rw [hr.1.1 171 (by omega) (by omega)]
      repeat (refine X_n rfl rfl rfl ?_)
      refine X_bf rfl rfl rfl (nI_pos (by omega)) ?_
      repeat (refine X_n rfl rfl rfl ?_)
      refine X_cd rfl rfl rfl rfl (Y_mnum hF hr hm hg9 hb) ?_
      refine X_b rfl rfl rfl (fun q1 => ?_) (fun q1 => ?_)
      · exact far (hskip (fun g => g.2.1.1 ((nu_sg hF hS hg9 hb).1.mp q1))) _ _
      have q1 : ¬ nuC F C0 (gRow F C0 p) b = -1 := fun h => q1 ((nu_sg hF hS hg9 hb).1.mpr h)
      repeat (refine X_n rfl rfl rfl ?_)
      refine X_cd rfl rfl rfl rfl (Y_mnum hF hr hm hg9 hb) ?_
      repeat (refine X_n rfl rfl rfl ?_)
      refine X_b rfl rfl rfl (fun q2 => ?_) (fun q2 => ?_)
      · exact far (hskip (fun g => Int32.not_lt.mpr q2 g.2.1.2)) _ _
      have q2 := Int32.not_le.mp q2
      repeat (refine X_n rfl rfl rfl ?_)
      refine X_bf rfl rfl rfl (show ¬ (1 : Int32) = 0 by decide) ?_
      repeat (refine X_n rfl rfl rfl ?_)
      refine X_lb rfl rfl rfl hF (show cm F b < 576 from hm5) ?_
      rw [e170]
      by_cases w : C0 2 b = 1
      · rw [if_pos w]
        refine X_bt rfl rfl rfl (show ¬ (1 : Int32) = 0 by decide) ?_
        exact nx (hskip (fun g => g.1 w)) _ _
      rw [if_neg w]
      refine X_bf rfl rfl rfl (fun h => h rfl) ?_
      repeat (refine X_n rfl rfl rfl ?_)
      refine X_la rfl rfl rfl hF (show cm F b < 576 from hm5) ?_
      rw [r5]
      refine X_b rfl rfl rfl (fun q3 => ?_) (fun q3 => ?_)
      · exact nx (hskip (fun g => h188.2.mp q3 g.2.2.1)) _ _
      have q3 : A 5 b = -1 := Classical.byContradiction (fun h => q3 (h188.2.mpr h))
      repeat (refine X_n rfl rfl rfl ?_)
      refine X_cd rfl rfl rfl rfl (Y_misBarred (c := cm F b) hm5) ?_
      refine X_nz rfl (fun q4 => ?_) (fun q4 => ?_)
      · exact nx (hskip (fun g => g.2.2.2.1 (hbr.mp q4))) _ _
      have q4 : ¬ brd C0 b t := fun h => q4 (hbr.mpr h)
      have fin8 : (¬ hasR C0 b ∨ N b < C0 3 b) → ∀ x7, X y_Model_go 138 [some (.ref 169), some (.int (nI p)), some (.int (nI t)), some (.int (nI (whN (gRow F C0 p)))), some (.int (nuC F C0 (gRow F C0 p) c)), some (.int (nI (3 - d))), some (.int (nI (cm F b))), x7] [] (hp F C J G) Q := by
        intro q5 x7
        have hgood : good F C0 A N t (gRow F C0 p) c b := ⟨⟨q1, q2⟩, q3, q4, q5⟩
        have htg : tgt F C0 A N t (gRow F C0 p) c 4 = some b := by rw [e, tgt, hnb, if_neg w]; exact m_if_t hgood
        have hstp := repM_stp (b := b) hr hi hF hP60 hpP hc hcn hb hk hkn (-1)
        have h191 : ∀ D : Ct, D = stpM F C p b k c t → D 191 = C 191 := fun D hD => by
          rw [hD]; unfold stpM
          rw [st_f (by omega), st_f (by omega), st_f (by omega), st_f (by omega), st_f (by omega), st_f (by omega)]
        have kt : nuC F C0 (gRow F C0 p) b = 0 → Q (.inl none) (hp F (st (st (st (st (stpM F C p b k c t) 181 p 1) 182 p (nI t)) 183 p (C 171 (cm F b))) 187 p (-1)) J G) := fun z => by
          rw [e171]
          exact ky b _ htg (hstp.1 z) (by rw [st_f (by omega), st_f (by omega), st_f (by omega), st_f (by omega)]; exact h191 _ rfl)
        have kf : ¬ nuC F C0 (gRow F C0 p) b = 0 → Q (.inl none) (hp F (st (st (stpM F C p b k c t) 187 p (nI (cm F b))) 188 (cm F b) (nI p)) J G) := fun z =>
          ky b _ htg (hstp.2 z h0) (by rw [st_f (by omega), st_f (by omega)]; exact h191 _ rfl)
        repeat (refine X_n rfl rfl rfl ?_)
        refine X_k rfl rfl rfl rfl (Y_isGoal (c := cm F b) hm5 (whN_le hg9) (fun z => ?_) (fun z => ?_))
        · dsimp only
          refine X_k rfl rfl rfl rfl (Y_mstep hF (by omega) hb hcn (show k < 600 by omega) g4 (g3.trans hk) (Or.inl ?_) (Or.inr rfl) (Or.inr rfl))
          dsimp only
          exact X_r rfl rfl rfl rfl (kt (hgz.mp z))
        · dsimp only
          refine X_k rfl rfl rfl rfl (Y_mstep hF (by omega) hb hcn (show k < 600 by omega) g4 (g3.trans hk) (Or.inr rfl) (Or.inl ?_) (Or.inl rfl))
          dsimp only
          exact X_r rfl rfl rfl rfl (kf (fun h => z (hgz.mpr h)))
      repeat (refine X_n rfl rfl rfl ?_)
      refine X_la rfl rfl rfl hF (show cm F b < 576 from hm5) ?_
      rw [e172]
      rcases b3 with ⟨v1, v2, v3⟩ | ⟨v1, v2⟩
      · rw [v2]
        refine X_bf rfl rfl rfl v3 ?_
        repeat (refine X_n rfl rfl rfl ?_)
        refine X_la rfl rfl rfl hF (show cm F b < 576 from hm5) ?_
        rw [r7]
        repeat (refine X_n rfl rfl rfl ?_)
        refine X_la rfl rfl rfl hF (show cm F b < 576 from hm5) ?_
        rw [e172, v2]
        refine X_b rfl rfl rfl (fun q5 => ?_) (fun q5 => ?_)
        · refine nx (hskip (fun g => ?_)) _ _
          rcases g.2.2.2.2 with u | u
          · exact u v1
          · exact Int32.not_lt.mpr q5 u
        · exact fin8 (Or.inr (Int32.not_le.mp q5)) _
      · rw [v2]
        refine X_bt rfl rfl rfl rfl ?_
        exact fin8 (Or.inl v1) _
theorem Y_mgo (hF : okF F) (hS : okS F C0) (hg : okG F C0) (hP : okP F C0 P) (hmc : mcf F C0 P) (hm : mnu F C0) (hr : repM F C0 P u18 N A C) (hi : inv F C0 P t A) (ht : t ≤ 3600) (hpP : p < P) (h0 : A 0 p = 0)
    (kn : tgt F C0 A N t (gRow F C0 p) (pA A p) 4 = none → Q (.inl none) (hp F C J G))
    (ky : ∀ b C', tgt F C0 A N t (gRow F C0 p) (pA A p) 4 = some b → repM F C0 P u18 (upd N b (N b + 1)) (stp F C0 t p b A) C' → C' 191 = C 191 → Q (.inl none) (hp F C' J G)) :
    Y y_Model_go [.ref 169, .int (nI p), .int (nI t)] (hp F C J G) Q := by
  have hn := hF.n
  have hP60 := hP.1
  obtain ⟨⟨c, c1, c2, c3, c4⟩, ⟨k, k1, k2, -⟩, -⟩ := hi.1 p hpP
  have ec := pA_eq hF c1 c2
  rw [ec] at kn ky
  obtain ⟨g0, g1, g2, g3, g4, g5⟩ := hr.2.1 p hpP
  have g4 := g4 h0
  rw [ec] at g4
  unfold Y
  repeat (refine X_n rfl rfl rfl ?_)
  refine X_cd rfl rfl rfl rfl (Y_goal hF hS hP hmc hm hr hi hpP h0) ?_
  repeat (refine X_n rfl rfl rfl ?_)
  refine X_la rfl rfl rfl hF (show p < 60 by omega) ?_
  refine X_top g4 ?_
  refine X_cd rfl rfl rfl rfl (Y_mnum hF hr hm (gRow_lt hP hpP) c1) ?_
  iterate 3 (refine X_n rfl rfl rfl ?_)
  exact Y_mgo_loop hF hS hg hP hmc hm hr hi ht hpP h0 c2 c1 k1 (by omega) kn ky 4 _ _ (Nat.le_refl 4) rfl
end
end
section
/-! the reference's run: who is next, a second -/
def mst (A C : Ct) (t p : Nat) : Prop := A 0 p = 0 ∧ A 9 p ≤ nI t ∧ C 191 p = 0
noncomputable def keyP (F : Fx) (C0 A : Ct) (p : Nat) : Int32 := m_if (nuP F C0 A p = -1) 100000 (nuP F C0 A p)
def leK (F : Fx) (C0 A : Ct) (a b : Nat) : Prop := keyP F C0 A a < keyP F C0 A b ∨ (keyP F C0 A a = keyP F C0 A b ∧ a ≤ b)
def nxt (F : Fx) (C0 A C : Ct) (P t : Nat) (v : Int32) : Prop := (v = -1 ∧ ∀ p, p < P → ¬ mst A C t p) ∨ ∃ a, a < P ∧ v = nI a ∧ mst A C t a ∧ ∀ b, b < P → mst A C t b → leK F C0 A a b
section
variable {F : Fx} {C0 A C : Ct} {P t p b k c : Nat} {N : Nat → Int32} {u18 : Int32} {J : Nat → Int64} {G : Ex} {Q : mE → mH → Prop}
theorem Y_nextOne_loop (hF : okF F) (hS : okS F C0) (hP : okP F C0 P) (hmc : mcf F C0 P) (hm : mnu F C0) (hr : repM F C0 P u18 N A C) (hi : inv F C0 P t A) (ht : t ≤ 3600)
    (kk : ∀ v, nxt F C0 A C P t v → Q (.inl (some (.int v))) (hp F C J G)) :
    ∀ d i v w x5, i + d = P → ((v = -1 ∧ ∀ p, p < i → ¬ mst A C t p) ∨ ∃ a, a < i ∧ v = nI a ∧ w = keyP F C0 A a ∧ mst A C t a ∧ ∀ b, b < i → mst A C t b → leK F C0 A a b) → X y_Model_nextOne 7 [some (.ref 169), some (.int (nI t)), some (.int v), some (.int w), some (.int (nI i)), x5] [] (hp F C J G) Q := by
  have hn := hF.n
  have hP60 := hP.1
  have e9 := hr.in hmc
  intro d
  induction d with
  | zero =>
    intro i v w x5 hd h
    have : i = P := by omega
    subst this
    repeat (refine X_n rfl rfl rfl ?_)
    refine X_bt rfl rfl rfl (show C 169 9 ≤ nI i by rw [e9]; exact Int32.le_refl _) ?_
    repeat (refine X_n rfl rfl rfl ?_)
    refine X_r rfl rfl rfl rfl (kk v ?_)
    rcases h with h | ⟨a, h1, h2, -, h3⟩
    · exact Or.inl h
    · exact Or.inr ⟨a, h1, h2, h3⟩
  | succ d ih =>
    intro i v w x5 hd h
    have hiP : i < P := by omega
    obtain ⟨⟨c, c1, c2, c3, c4⟩, -, -⟩ := hi.1 i hiP
    have ec := pA_eq hF c1 c2
    obtain ⟨g0, g1, g2, g3, g4, g5⟩ := hr.2.1 i hiP
    have nx : ∀ v w x5, ((v = -1 ∧ ∀ p, p < i + 1 → ¬ mst A C t p) ∨ ∃ a, a < i + 1 ∧ v = nI a ∧ w = keyP F C0 A a ∧ mst A C t a ∧ ∀ b, b < i + 1 → mst A C t b → leK F C0 A a b) → X y_Model_nextOne 95 [some (.ref 169), some (.int (nI t)), some (.int v), some (.int w), some (.int (nI i)), x5] [] (hp F C J G) Q := by
      intro v w x5 h
      iterate 2 (refine X_n rfl rfl rfl ?_)
      rw [nI_1']
      exact ih (i + 1) v w x5 (by omega) h
    have no : ¬ mst A C t i → ∀ x5, X y_Model_nextOne 95 [some (.ref 169), some (.int (nI t)), some (.int v), some (.int w), some (.int (nI i)), x5] [] (hp F C J G) Q := by
      intro hno x5
      refine nx v w x5 ?_
      rcases h with ⟨h1, h2⟩ | ⟨a, h1, h2, h3, h4, h5⟩
      · refine Or.inl ⟨h1, fun p hp => ?_⟩
        by_cases e : p = i
        · subst e; exact hno
        · exact h2 p (by omega)
      · refine Or.inr ⟨a, by omega, h2, h3, h4, fun b hb hm => ?_⟩
        by_cases e : b = i
        · subst e; exact absurd hm hno
        · exact h5 b (by omega) hm
    repeat (refine X_n rfl rfl rfl ?_)
    refine X_bf rfl rfl rfl (show ¬ C 169 9 ≤ nI i by rw [e9]; exact nI_ge hiP (by omega)) ?_
    repeat (refine X_n rfl rfl rfl ?_)
    refine X_la rfl rfl rfl hF (show i < 60 by omega) ?_
    rw [g0]
    refine X_b rfl rfl rfl (fun q => ?_) (fun q => ?_)
    · exact no (fun h => q h.1) _
    have q : A 0 i = 0 := Classical.not_not.mp q
    have g4 := g4 q
    rw [ec] at g4
    repeat (refine X_n rfl rfl rfl ?_)
    refine X_lb rfl rfl rfl hF (show i < 60 by omega) ?_
    refine X_b rfl rfl rfl (fun q2 => ?_) (fun q2 => ?_)
    · exact no (fun h => q2 h.2.2) _
    have q2 : C 191 i = 0 := Classical.not_not.mp q2
    repeat (refine X_n rfl rfl rfl ?_)
    refine X_cd rfl rfl rfl rfl (Y_maySteps hF hP hmc hr hi ht hiP) ?_
    refine X_z rfl (fun q3 => ?_) (fun q3 => ?_)
    · exact no (fun h => q3 h.2.1) _
    have hmi : mst A C t i := ⟨q, q3, q2⟩
    have st79 : ∀ k5, k5 = keyP F C0 A i → X y_Model_nextOne 79 [some (.ref 169), some (.int (nI t)), some (.int v), some (.int w), some (.int (nI i)), some (.int k5)] [] (hp F C J G) Q := by
      intro k5 hk5
      subst hk5
      rcases h with ⟨h1, h2⟩ | ⟨a, h1, h2, h3, h4, h5⟩
      · subst h1
        repeat (refine X_n rfl rfl rfl ?_)
        refine X_bt rfl rfl rfl (show (-1 : Int32) < 0 by decide) ?_
        iterate 4 (refine X_n rfl rfl rfl ?_)
        refine nx (nI i) _ _ (Or.inr ⟨i, by omega, rfl, rfl, hmi, fun b hb hmb => ?_⟩)
        by_cases e : b = i
        · subst e; exact Or.inr ⟨rfl, Nat.le_refl b⟩
        · exact absurd hmb (h2 b (by omega))
      · subst h2
        subst h3
        repeat (refine X_n rfl rfl rfl ?_)
        refine X_bf rfl rfl rfl (nI_pos (by omega)) ?_
        repeat (refine X_n rfl rfl rfl ?_)
        refine X_b rfl rfl rfl (fun q5 => ?_) (fun q5 => ?_)
        · refine nx (nI a) _ _ (Or.inr ⟨a, by omega, rfl, rfl, h4, fun b hb hmb => ?_⟩)
          by_cases e : b = i
          · subst e
            rcases Int32.lt_or_eq_of_le q5 with g | g
            · exact Or.inl g
            · exact Or.inr ⟨g, by omega⟩
          · exact h5 b (by omega) hmb
        · have q5 := Int32.not_le.mp q5
          iterate 4 (refine X_n rfl rfl rfl ?_)
          refine nx (nI i) _ _ (Or.inr ⟨i, by omega, rfl, rfl, hmi, fun b hb hmb => ?_⟩)
          by_cases e : b = i
          · subst e; exact Or.inr ⟨rfl, Nat.le_refl b⟩
          · rcases h5 b (by omega) hmb with g | ⟨g, -⟩
            · exact Or.inl (Int32.lt_trans q5 g)
            · exact Or.inl (g ▸ q5)
    have enu : nuP F C0 A i = nuC F C0 (gRow F C0 i) c := by unfold nuP; rw [ec]
    repeat (refine X_n rfl rfl rfl ?_)
    refine X_cd rfl rfl rfl rfl (Y_goal hF hS hP hmc hm hr hi hiP q) ?_
    repeat (refine X_n rfl rfl rfl ?_)
    refine X_la rfl rfl rfl hF (show i < 60 by omega) ?_
    refine X_top g4 ?_
    refine X_cd rfl rfl rfl rfl (Y_mnum hF hr hm (gRow_lt hP hiP) c1) ?_
    repeat (refine X_n rfl rfl rfl ?_)
    refine X_b rfl rfl rfl (fun q4 => ?_) (fun q4 => ?_)
    · iterate 2 (refine X_n rfl rfl rfl ?_)
      refine st79 _ ?_
      unfold keyP
      rw [enu, m_if_f ((nu_sg hF hS (gRow_lt hP hiP) c1).2.mp q4)]
    · iterate 3 (refine X_n rfl rfl rfl ?_)
      refine st79 _ ?_
      unfold keyP
      rw [enu, m_if_t (Classical.byContradiction fun h => q4 ((nu_sg hF hS (gRow_lt hP hiP) c1).2.mpr h))]
theorem Y_nextOne (hF : okF F) (hS : okS F C0) (hP : okP F C0 P) (hmc : mcf F C0 P) (hm : mnu F C0) (hr : repM F C0 P u18 N A C) (hi : inv F C0 P t A) (ht : t ≤ 3600)
    (kk : ∀ v, nxt F C0 A C P t v → Q (.inl (some (.int v))) (hp F C J G)) : Y y_Model_nextOne [.ref 169, .int (nI t)] (hp F C J G) Q := by
  unfold Y
  iterate 6 (refine X_n rfl rfl rfl ?_)
  exact Y_nextOne_loop hF hS hP hmc hm hr hi ht kk P 0 (-1) 0 none (by omega) (Or.inl ⟨rfl, fun p hp => by omega⟩)
theorem repM.gone {g : Nat → Int32} (h : repM F C0 P u18 N A C) : repM F C0 P u18 N A (stA C 191 g) := by
  obtain ⟨⟨h1, h1'⟩, h2, h3⟩ := h
  refine ⟨⟨fun k hk h169 => ?_, fun j => ?_⟩, fun q hq => ?_, fun d hd => ?_⟩
  · rw [stA_f (by omega)]; exact h1 k hk h169
  · rw [stA_f (by omega)]; exact h1' j
  · have := h2 q hq
    unfold repQ at *
    simpa [stA_r] using this
  · simpa [stA_r] using h3 d hd
/-- without a number nobody steps -/
theorem tgt_un (hF : okF F) (hS : okS F C0) {r : Nat} (hr : r < 9) (hc : c < F.1 * F.2.1) (h : nuC F C0 r c = -1) : tgt F C0 A N t r c 4 = none := by
  rw [tgt_none 4 (Nat.le_refl 4)]
  intro w b h1 h2 h3 hg
  have hb := (nbC_in hF hS hc h2 h3).1
  have hn := hF.n
  rcases nu_or hF hS hr hb with e | ⟨d, hd, e⟩
  · exact hg.1.1 e
  · have := hg.1.2
    rw [e, h] at this
    exact absurd (Int32.lt_of_le_of_lt (nI_pos' (n := d) (by omega)) this) (by decide)
theorem key_lt (hF : okF F) (hS : okS F C0) (hP : okP F C0 P) (hi : inv F C0 P t A) (hp : p < P) (h : ¬ nuP F C0 A p = -1) : keyP F C0 A p = nuP F C0 A p ∧ nuP F C0 A p < 100000 := by
  have hn := hF.n
  obtain ⟨⟨c, c1, c2, c3, c4⟩, -, -⟩ := hi.1 p hp
  refine ⟨m_if_f h, ?_⟩
  unfold nuP at *
  rw [pA_eq hF c1 c2] at *
  rcases nu_or hF hS (gRow_lt hP hp) c1 with e | ⟨d, hd, e⟩
  · exact absurd e h
  · rw [e]; exact nI_lt (a := d) (b := 100000) (by omega) (by omega)
theorem Y_second_loop {z1 : Ct × (Nat → Int32)} (hF : okF F) (hS : okS F C0) (hg : okG F C0) (hP : okP F C0 P) (hmc : mcf F C0 P) (hm : mnu F C0) (ht : t ≤ 3600)
    (kk : ∀ C', repM F C0 P u18 z1.2 z1.1 C' → Q (.inl none) (hp F C' J G)) :
    ∀ d (l2 : List Nat) (z : Ct × (Nat → Int32)) C v, cntW (fun _ => C 191) P = d → l2.foldl (go1 F C0 t) z = z1 → repM F C0 P u18 z.2 z.1 C → inv F C0 P t z.1 → l2.Pairwise (lx F C0 z.1) → (∀ p, p ∈ l2 → p < P) → (∀ p, p < P → ((mst z.1 C t p ∧ ¬ nuP F C0 z.1 p = -1) ↔ p ∈ l2)) → nxt F C0 z.1 C P t v →
    X y_Model_second 107 [some (.ref 169), some (.int (nI t)), some (.int v)] [] (hp F C J G) Q := by
  have hn := hF.n
  have hP60 := hP.1
  intro d
  induction d with
  | zero =>
    intro l2 z C v hd hf hr hi hpw hlP hl hv
    rcases hv with ⟨e, hno⟩ | ⟨a, ha, e, hma, hmin⟩
    · have : l2 = [] := by
        cases l2 with
        | nil => rfl
        | cons a l => exact absurd ((hl a (hlP a (List.mem_cons_self ..))).mpr (List.mem_cons_self ..)).1 (hno a (hlP a (List.mem_cons_self ..)))
      subst this
      subst e
      have hf : z = z1 := hf
      repeat (refine X_n rfl rfl rfl ?_)
      refine X_bt rfl rfl rfl (show (-1 : Int32) < 0 by decide) ?_
      exact X_r rfl rfl rfl rfl (kk C (hf ▸ hr))
    · exact absurd (cntW_pos.mpr ⟨a, ha, hma.2.2⟩) (by rw [hd]; omega)
  | succ d ih =>
    intro l2 z C v hd hf hr hi hpw hlP hl hv
    rcases hv with ⟨e, hno⟩ | ⟨a, ha, e, hma, hmin⟩
    · have : l2 = [] := by
        cases l2 with
        | nil => rfl
        | cons a l => exact absurd ((hl a (hlP a (List.mem_cons_self ..))).mpr (List.mem_cons_self ..)).1 (hno a (hlP a (List.mem_cons_self ..)))
      subst this
      subst e
      have hf : z = z1 := hf
      repeat (refine X_n rfl rfl rfl ?_)
      refine X_bt rfl rfl rfl (show (-1 : Int32) < 0 by decide) ?_
      exact X_r rfl rfl rfl rfl (kk C (hf ▸ hr))
    · subst e
      have hd1 : cntW (fun _ => upd (C 191) a 1) P = d := by
        have h1 := cntW_end (A := fun _ => C 191) (v := 1) (by decide) ha hma.2.2
        have h2 : cntW (st (fun _ => C 191) 0 a 1) P = cntW (fun _ => upd (C 191) a 1) P := cntW_le (fun q _ => rfl)
        omega
      -- what follows a's turn
      have nx : ∀ (l2' : List Nat) (z' : Ct × (Nat → Int32)) C', C' 191 = upd (C 191) a 1 → l2'.foldl (go1 F C0 t) z' = z1 → repM F C0 P u18 z'.2 z'.1 C' → inv F C0 P t z'.1 → l2'.Pairwise (lx F C0 z'.1) → (∀ p, p ∈ l2' → p < P) → (∀ p, p < P → ((mst z'.1 C' t p ∧ ¬ nuP F C0 z'.1 p = -1) ↔ p ∈ l2')) →
          X y_Model_second 124 [some (.ref 169), some (.int (nI t)), some (.int (nI a))] [] (hp F C' J G) Q := by
        intro l2' z' C' h191 hf' hr' hi' hpw' hlP' hl'
        repeat (refine X_n rfl rfl rfl ?_)
        refine X_k rfl rfl rfl rfl (Y_nextOne hF hS hP hmc hm hr' hi' ht (fun v hv => ?_))
        dsimp only
        iterate 2 (refine X_n rfl rfl rfl ?_)
        exact ih l2' z' C' v (by rw [h191]; exact hd1) hf' hr' hi' hpw' hlP' hl' hv
      have hr1 : repM F C0 P u18 z.2 z.1 (st C 191 a 1) := hr.gone
      obtain ⟨⟨c, c1, c2, c3, c4⟩, -, -⟩ := hi.1 a ha
      have ec := pA_eq hF c1 c2
      repeat (refine X_n rfl rfl rfl ?_)
      refine X_bf rfl rfl rfl (nI_pos (by omega)) ?_
      repeat (refine X_n rfl rfl rfl ?_)
      refine X_sb rfl rfl (by decide) rfl hF (show a < 60 by omega) ?_
      repeat (refine X_n rfl rfl rfl ?_)
      by_cases hu : nuP F C0 z.1 a = -1
      · have hl0 : l2 = [] := by
          cases l2 with
          | nil => rfl
          | cons h l =>
            have hh := hlP h (List.mem_cons_self ..)
            have h2 := (hl h hh).mpr (List.mem_cons_self ..)
            have k1 := key_lt hF hS hP hi hh h2.2
            have ka : keyP F C0 z.1 a = 100000 := m_if_t hu
            rcases hmin h hh h2.1 with g | ⟨g, -⟩
            · rw [ka, k1.1] at g; exact absurd (Int32.lt_trans g k1.2) (i32_irr _)
            · rw [ka, k1.1] at g; rw [← g] at k1; exact absurd k1.2 (i32_irr _)
        subst hl0
        have htn : tgt F C0 z.1 z.2 t (gRow F C0 a) (pA z.1 a) 4 = none := by
          rw [ec]
          unfold nuP at hu
          rw [ec] at hu
          exact tgt_un hF hS (gRow_lt hP ha) c1 hu
        refine X_k rfl rfl rfl rfl (Y_mgo hF hS hg hP hmc hm hr1 hi ht ha hma.1 (fun _ => ?_) (fun b C' hb => ?_))
        · dsimp only
          refine nx [] z _ rfl hf hr1 hi hpw hlP (fun p hp => ?_)
          refine ⟨fun h => ?_, fun h => (by cases h)⟩
          by_cases e : p = a
          · subst e; exact absurd hu h.2
          · exact (hl p hp).mp ⟨⟨h.1.1, h.1.2.1, by rw [← h.1.2.2, st_i e]⟩, h.2⟩
        · rw [htn] at hb; cases hb
      · have hal := (hl a ha).mp ⟨hma, hu⟩
        cases l2 with
        | nil => cases hal
        | cons h l =>
          obtain ⟨hp1, hp2⟩ := List.pairwise_cons.mp hpw
          have hh := hlP h (List.mem_cons_self ..)
          have h2 := (hl h hh).mpr (List.mem_cons_self ..)
          have eah : a = h := by
            rcases List.mem_cons.mp hal with g | g
            · exact g
            · have k1 := (key_lt hF hS hP hi hh h2.2).1
              have k2 := (key_lt hF hS hP hi ha hu).1
              have hlx := hp1 a g
              rcases hmin h hh h2.1 with w | ⟨w, w'⟩
              · rw [k1, k2] at w
                rcases hlx with u | ⟨u, -⟩
                · exact absurd (Int32.lt_trans w u) (i32_irr _)
                · rw [u] at w; exact absurd w (i32_irr _)
              · rw [k1, k2] at w
                rcases hlx with u | ⟨-, u⟩
                · rw [w] at u; exact absurd u (i32_irr _)
                · omega
          subst eah
          have hna : a ∉ l := fun m => lx_asym (hp1 a m) (hp1 a m)
          -- behind the step
          have after : ∀ (z' : Ct × (Nat → Int32)) C', z' = go1 F C0 t z a → C' 191 = upd (C 191) a 1 → repM F C0 P u18 z'.2 z'.1 C' → X y_Model_second 124 [some (.ref 169), some (.int (nI t)), some (.int (nI a))] [] (hp F C' J G) Q := by
            intro z' C' ez h191 hr'
            subst ez
            have hfld : ∀ p f, p ≠ a → (f ≤ 4 ∨ f = 9) → (go1 F C0 t z a).1 f p = z.1 f p := fun p f hpa hf => go1_f hpa hf
            have hnu : ∀ p, p ≠ a → nuP F C0 (go1 F C0 t z a).1 p = nuP F C0 z.1 p := fun p hpa => by unfold nuP pA; rw [hfld p 4 hpa (by omega)]
            refine nx l (go1 F C0 t z a) C' h191 hf hr' (go1_inv hF hS hP hi ht ha hma.1 hma.2.1) ?_ (fun p hp => hlP p (List.mem_cons_of_mem _ hp)) (fun p hp => ?_)
            · refine List.Pairwise.imp_of_mem (fun {x y} hx hy hxy => ?_) hp2
              unfold lx at *
              rw [hnu x (fun e => hna (e ▸ hx)), hnu y (fun e => hna (e ▸ hy))]
              exact hxy
            · by_cases e : p = a
              · subst e
                refine ⟨fun h => ?_, fun h => absurd h hna⟩
                have := h.1.2.2
                rw [h191] at this
                exact absurd (this.symm.trans (if_pos rfl)) (by decide)
              · rw [hnu p e]
                unfold mst
                rw [hfld p 0 e (by omega), hfld p 9 e (by omega), h191, show upd (C 191) a 1 p = C 191 p from if_neg e]
                refine (hl p hp).trans ⟨fun m => ?_, fun m => List.mem_cons_of_mem _ m⟩
                rcases List.mem_cons.mp m with g | g
                · exact absurd g e
                · exact g
          refine X_k rfl rfl rfl rfl (Y_mgo hF hS hg hP hmc hm hr1 hi ht ha hma.1 (fun hn => ?_) (fun b C' hb hr2 h191 => ?_))
          · dsimp only
            refine after z _ ?_ rfl hr1
            unfold go1; rw [hn]
          · dsimp only
            refine after (stp F C0 t a b z.1, upd z.2 b (z.2 b + 1)) C' ?_ h191 hr2
            unfold go1; rw [hb]
end
end
section
/-! the reference's run: a second, the whole -/
section
variable {F : Fx} {C0 A C : Ct} {P t p b k c : Nat} {N : Nat → Int32} {u18 : Int32} {J : Nat → Int64} {G : Ex} {Q : mE → mH → Prop}
theorem repM.now {g : Nat → Int32} (h : repM F C0 P u18 N A C) : repM F C0 P u18 (fun c => g (cm F c)) A (stA C 190 g) := by
  obtain ⟨⟨h1, h1'⟩, h2, h3⟩ := h
  refine ⟨⟨fun k hk h169 => ?_, fun j => ?_⟩, fun q hq => ?_, fun d hd => ?_⟩
  · rw [stA_f (by omega)]; exact h1 k hk h169
  · rw [stA_f (by omega)]; exact h1' j
  · have := h2 q hq
    unfold repQ at *
    simpa [stA_r] using this
  · obtain ⟨g1, g2, -⟩ := h3 d hd
    exact ⟨by simpa [stA_r] using g1, by simpa [stA_r] using g2, by simp [stA_r]⟩
theorem repM.lst {v : Int32} (h : repM F C0 P u18 N A C) : repM F C0 P v N A (st C 169 18 v) := by
  obtain ⟨⟨h1, h1'⟩, h2, h3⟩ := h
  refine ⟨⟨fun k hk h169 => ?_, fun j => ?_⟩, fun q hq => ?_, fun d hd => ?_⟩
  · rw [st_f h169]; exact h1 k hk h169
  · by_cases e : j = 18
    · subst e; rw [st_s, if_pos rfl]
    · rw [st_i e, if_neg e, h1' j, if_neg e]
  · have := h2 q hq
    unfold repQ at *
    simpa [st_r] using this
  · simpa [st_r] using h3 d hd
/-- smoke -/
theorem repM.smk (h : repM F C0 P u18 N A C) (hF : okF F) (hp : p < P) (hcn : c < F.1 * F.2.1) : repM F C0 P u18 N (st (st (st A 5 c (-1)) 0 p 2) 1 p (nI t)) (st (st (st (st C 181 p 2) 182 p (nI t)) 188 (cm F c) (-1)) 187 p (-1)) := by
  obtain ⟨⟨h1, h1'⟩, h2, h3⟩ := h
  refine ⟨⟨fun k hk h169 => ?_, fun j => ?_⟩, fun q hq => ?_, fun d hd => ?_⟩
  · rw [st_f (by omega), st_f (by omega), st_f (by omega), st_f (by omega)]; exact h1 k hk h169
  · rw [st_f (by omega), st_f (by omega), st_f (by omega), st_f (by omega)]; exact h1' j
  · obtain ⟨g0, g1, g2, g3, g4, g5⟩ := h2 q hq
    unfold repQ pA at *
    by_cases e : q = p
    · subst e
      refine ⟨by simp [st_r], by simp [st_r], by simpa [st_r] using g2, by simpa [st_r] using g3, fun h => ?_, by simpa [st_r] using g5⟩
      exact absurd h (by simp [st_r])
    · refine ⟨by simpa [st_r, e] using g0, by simpa [st_r, e] using g1, by simpa [st_r] using g2, by simpa [st_r] using g3, by simpa [st_r, e] using g4, by simpa [st_r] using g5⟩
  · obtain ⟨g1, g2, g3⟩ := h3 d hd
    have e1 := cm_eqP hF hd hcn
    exact ⟨by simp [st_r, e1, g1], by simpa [st_r] using g2, by simpa [st_r] using g3⟩
theorem Y_second2 (hF : okF F) (hS : okS F C0) (hg : okG F C0) (hP : okP F C0 P) (hmc : mcf F C0 P) (hm : mnu F C0) (hi : inv F C0 P t A) (ht : t ≤ 3600)
    (kk : ∀ C' N', repM F C0 P u18 N' (sec F C0 P t A) C' → Q (.inl none) (hp F C' J G)) :
    ∀ d i C, i + d = P → repM F C0 P u18 (fun _ => 0) (ctI C0 t A i) C → (∀ p, p < i → C 191 p = 0) → X y_Model_second 24 [some (.ref 169), some (.int (nI t)), some (.int (nI i))] [] (hp F C J G) Q := by
  have hn := hF.n
  have hP60 := hP.1
  intro d
  induction d with
  | zero =>
    intro i C hd hr hgo
    have : i = P := by omega
    subst this
    have hi2 := ct_inv (C := C0) (t := t) hF hi (Nat.le_refl i)
    have ho := ordL_ok (F := F) (C := C0) (A := ctI C0 t A i) (t := t) i
    repeat (refine X_n rfl rfl rfl ?_)
    refine X_bt rfl rfl rfl (show C 169 9 ≤ nI i by rw [hr.in hmc]; exact Int32.le_refl _) ?_
    repeat (refine X_n rfl rfl rfl ?_)
    refine X_k rfl rfl rfl rfl (Y_nextOne hF hS hP hmc hm hr hi2 ht (fun v hv => ?_))
    dsimp only
    iterate 1 (refine X_n rfl rfl rfl ?_)
    refine Y_second_loop (z1 := (ordL F C0 (ctI C0 t A i) t i).foldl (go1 F C0 t) (ctI C0 t A i, fun _ => 0)) hF hS hg hP hmc hm ht (fun C' h => kk C' _ h) _ (ordL F C0 (ctI C0 t A i) t i) (ctI C0 t A i, fun _ => 0) C v rfl rfl hr hi2 ho.1 (fun p hp => ((ho.2 p).mp hp).1) (fun p hp => ?_) hv
    refine ⟨fun h => (ho.2 p).mpr ⟨hp, h.1.1, h.1.2.1, h.2⟩, fun h => ?_⟩
    obtain ⟨-, h0, h9, hnu⟩ := (ho.2 p).mp h
    exact ⟨⟨h0, h9, hgo p hp⟩, hnu⟩
  | succ d ih =>
    intro i C hd hr hgo
    have hiP : i < P := by omega
    have hi2 := ct_inv (C := C0) (t := t) hF hi (show i ≤ P by omega)
    obtain ⟨⟨c, c1, c2, c3, c4⟩, -, -⟩ := hi2.1 i hiP
    obtain ⟨g0, g1, g2, g3, g4, g5⟩ := hr.2.1 i hiP
    have ec := pA_eq hF c1 c2
    have hr1 : repM F C0 P u18 (fun _ => 0) (ctI C0 t A i) (st C 191 i 0) := hr.gone
    have hg1 : ∀ p, p < i + 1 → st C 191 i 0 191 p = 0 := fun p hp => by
      by_cases e : p = i
      · subst e; exact st_s
      · rw [st_i e]; exact hgo p (by omega)
    have nx : ∀ C', repM F C0 P u18 (fun _ => 0) (ctI C0 t A (i + 1)) C' → (∀ p, p < i + 1 → C' 191 p = 0) → X y_Model_second 95 [some (.ref 169), some (.int (nI t)), some (.int (nI i))] [] (hp F C' J G) Q := by
      intro C' h1 h2
      iterate 2 (refine X_n rfl rfl rfl ?_)
      rw [nI_1']
      exact ih (i + 1) C' (by omega) h1 h2
    have no : ¬ (ctI C0 t A i 0 i = 0 ∧ brd C0 (pA (ctI C0 t A i) i) t) → X y_Model_second 95 [some (.ref 169), some (.int (nI t)), some (.int (nI i))] [] (hp F (st C 191 i 0) J G) Q := fun h => nx _ (by rw [ctI, m_if_f h]; exact hr1) hg1
    repeat (refine X_n rfl rfl rfl ?_)
    refine X_bf rfl rfl rfl (show ¬ C 169 9 ≤ nI i by rw [hr.in hmc]; exact nI_ge hiP (by omega)) ?_
    repeat (refine X_n rfl rfl rfl ?_)
    refine X_sb rfl rfl (by decide) rfl hF (show i < 60 by omega) ?_
    repeat (refine X_n rfl rfl rfl ?_)
    refine X_la rfl rfl rfl hF (show i < 60 by omega) ?_
    refine X_top (w := C 181 i) rfl ?_
    rw [g0]
    refine X_b rfl rfl rfl (fun q => ?_) (fun q => ?_)
    · exact no (fun h => q h.1)
    have q : ctI C0 t A i 0 i = 0 := Classical.not_not.mp q
    have g4 := g4 q
    rw [ec] at g4
    repeat (refine X_n rfl rfl rfl ?_)
    refine X_la rfl rfl rfl hF (show i < 60 by omega) ?_
    refine X_top (w := nI (cm F c)) g4 ?_
    repeat (refine X_n rfl rfl rfl ?_)
    have hc5 := (cm_in hF c1).2.2.2
    obtain ⟨b1, b2, b3⟩ := hmc.2.2.2 c c1
    have e173 : st C 191 i 0 173 (cm F c) = C0 4 c := by rw [st_f (by omega), hr.1.1 173 (by omega) (by omega)]; exact b1
    have hbr : (0 ≤ st C 191 i 0 173 (cm F c) ∧ st C 191 i 0 173 (cm F c) ≤ nI t) ↔ brd C0 c t := by
      rw [e173]
      unfold brd
      rcases b2 with g | g
      · rw [g]; exact ⟨fun h => absurd h.1 (by decide), fun h => absurd rfl h.1⟩
      · exact ⟨fun h => ⟨fun e => by rw [e] at g; exact absurd g (by decide), h.2⟩, fun h => ⟨g, h.2⟩⟩
    refine X_cd rfl rfl rfl rfl (Y_misBarred (c := cm F c) hc5) ?_
    refine X_z rfl (fun q2 => ?_) (fun q2 => ?_)
    · exact no (fun h => q2 (hbr.mpr (by rw [ec] at h; exact h.2)))
    · have q2 := hbr.mp q2
      repeat (refine X_n rfl rfl rfl ?_)
      refine X_sa rfl rfl rfl hF (show i < 60 by omega) ?_
      repeat (refine X_n rfl rfl rfl ?_)
      refine X_sa rfl rfl rfl hF (show i < 60 by omega) ?_
      repeat (refine X_n rfl rfl rfl ?_)
      refine X_la rfl rfl rfl hF (show i < 60 by omega) ?_
      refine X_top (w := nI (cm F c)) g4 ?_
      repeat (refine X_n rfl rfl rfl ?_)
      refine X_sa rfl rfl rfl hF (show cm F c < 576 from hc5) ?_
      repeat (refine X_n rfl rfl rfl ?_)
      refine X_sa rfl rfl rfl hF (show i < 60 by omega) ?_
      refine nx _ ?_ (fun p hp => ?_)
      · rw [ctI, m_if_t ⟨q, by rw [ec]; exact q2⟩, ec]
        exact hr1.smk hF hiP c1
      · rw [st_f (by omega), st_f (by omega), st_f (by omega), st_f (by omega)]; exact hg1 p hp
theorem Y_second1 (kk : X y_Model_second 22 [some (.ref 169), some (.int (nI t)), some (.int (nI 576))] [] (hp F (stA C 190 (flt (C 190) 0 576)) J G) Q) (hF : okF F) :
    ∀ d i, i + d = 576 → X y_Model_second 2 [some (.ref 169), some (.int (nI t)), some (.int (nI i))] [] (hp F (stA C 190 (flt (C 190) 0 i)) J G) Q := by
  intro d
  induction d with
  | zero =>
    intro i hd
    have : i = 576 := by omega
    subst this
    repeat (refine X_n rfl rfl rfl ?_)
    refine X_bt rfl rfl rfl (Int32.le_refl _) ?_
    exact kk
  | succ d ih =>
    intro i hd
    repeat (refine X_n rfl rfl rfl ?_)
    refine X_bf rfl rfl rfl (show ¬ nI 576 ≤ nI i from nI_ge (by omega) (by omega)) ?_
    repeat (refine X_n rfl rfl rfl ?_)
    refine X_sa rfl rfl rfl hF (show i < 576 by omega) ?_
    rw [st_stA, show upd (flt (C 190) 0 i) i (Int32.ofInt 0) = flt (C 190) 0 (i + 1) from flt_s _ _ _]
    iterate 2 (refine X_n rfl rfl rfl ?_)
    rw [nI_1']
    exact ih (i + 1) (by omega)
theorem Y_second (hF : okF F) (hS : okS F C0) (hg : okG F C0) (hP : okP F C0 P) (hmc : mcf F C0 P) (hm : mnu F C0) (hr : repM F C0 P u18 N A C) (hi : inv F C0 P t A) (ht : t ≤ 3600)
    (kk : ∀ C' N', repM F C0 P u18 N' (sec F C0 P t A) C' → Q (.inl none) (hp F C' J G)) : Y y_Model_second [.ref 169, .int (nI t)] (hp F C J G) Q := by
  unfold Y
  iterate 2 (refine X_n rfl rfl rfl ?_)
  have h := Y_second1 (F := F) (C := C) (J := J) (G := G) (Q := Q) (t := t) ?_ hF 576 0 (by omega)
  · rw [flt_0, stA_self] at h
    exact h
  · iterate 2 (refine X_n rfl rfl rfl ?_)
    refine Y_second2 hF hS hg hP hmc hm hi ht kk P 0 _ (by omega) ?_ (fun p hp => by omega)
    have h2 := hr.now (g := flt (C 190) 0 576)
    refine ⟨h2.1, h2.2.1, fun c hc => ?_⟩
    obtain ⟨a1, a2, a3⟩ := h2.2.2 c hc
    refine ⟨a1, a2, a3.trans ?_⟩
    show (if cm F c < 576 then (0 : Int32) else _) = 0
    rw [if_pos (cm_in hF hc).2.2.2]
theorem Y_anyWaits_loop (hP : okP F C0 P) (hF : okF F) (hmc : mcf F C0 P) (hr : repM F C0 P u18 N A C)
    (kk : Q (.inl (some (.int (bI (decide (0 < cntW A P)))))) (hp F C J G)) :
    ∀ d i, i + d = P → X y_Model_anyWaits 4 [some (.ref 169), some (.int (bI (decide (0 < cntW A i)))), some (.int (nI i))] [] (hp F C J G) Q := by
  have hP60 := hP.1
  intro d
  induction d with
  | zero =>
    intro i hd
    have : i = P := by omega
    subst this
    repeat (refine X_n rfl rfl rfl ?_)
    refine X_bt rfl rfl rfl (show C 169 9 ≤ nI i by rw [hr.in hmc]; exact Int32.le_refl _) ?_
    by_cases h : 0 < cntW A i
    · rw [decide_eq_true h] at kk ⊢
      repeat (refine X_n rfl rfl rfl ?_)
      exact X_r rfl rfl rfl rfl kk
    · rw [decide_eq_false h] at kk ⊢
      repeat (refine X_n rfl rfl rfl ?_)
      exact X_r rfl rfl rfl rfl kk
  | succ d ih =>
    intro i hd
    have hiP : i < P := by omega
    have g0 := (hr.2.1 i hiP).1
    have ih := ih (i + 1) (by omega)
    repeat (refine X_n rfl rfl rfl ?_)
    refine X_bf rfl rfl rfl (show ¬ C 169 9 ≤ nI i by rw [hr.in hmc]; exact nI_ge hiP (by omega)) ?_
    repeat (refine X_n rfl rfl rfl ?_)
    refine X_nz rfl (fun q => ?_) (fun q => ?_)
    · rw [decide_eq_true (cntW_pos.mpr ((cntW_pos.mp q).elim fun p h => ⟨p, by omega, h.2⟩))] at ih
      iterate 5 (refine X_n rfl rfl rfl ?_)
      rw [nI_1']
      exact ih
    · repeat (refine X_n rfl rfl rfl ?_)
      refine X_la rfl rfl rfl hF (show i < 60 by omega) ?_
      rw [g0]
      refine X_b rfl rfl rfl (fun q2 => ?_) (fun q2 => ?_)
      · rw [decide_eq_false (fun hh => (cntW_pos.mp hh).elim fun p h => by
          obtain ⟨h1, h2⟩ := h
          by_cases e : p = i
          · subst e; exact q2 h2
          · exact q (cntW_pos.mpr ⟨p, by omega, h2⟩))] at ih
        iterate 4 (refine X_n rfl rfl rfl ?_)
        rw [nI_1']
        exact ih
      · have q2 : A 0 i = 0 := Classical.not_not.mp q2
        rw [decide_eq_true (cntW_pos.mpr ⟨i, by omega, q2⟩)] at ih
        iterate 5 (refine X_n rfl rfl rfl ?_)
        rw [nI_1']
        exact ih
theorem Y_anyWaits (hP : okP F C0 P) (hF : okF F) (hmc : mcf F C0 P) (hr : repM F C0 P u18 N A C) : Yd y_Model_anyWaits [.ref 169] (hp F C J G) (.inl (some (.int (bI (decide (0 < cntW A P)))))) (hp F C J G) := by
  refine Yd_of (fun Q kk => ?_)
  unfold Y
  iterate 4 (refine X_n rfl rfl rfl ?_)
  have h := Y_anyWaits_loop (J := J) (G := G) (Q := Q) hP hF hmc hr kk P 0 (by omega)
  rw [decide_eq_false (show ¬ 0 < cntW A 0 from by simp [cntW])] at h
  exact h
end
end
section
/-! the reference's run: the whole -/
/-- what the reference keeps of a run -/
def resM (F : Fx) (P : Nat) (C : Ct) : Prop := (∀ p, p < P → C 181 p = (fin F C P).2 0 p ∧ C 182 p = (fin F C P).2 1 p ∧ C 183 p = (fin F C P).2 2 p ∧ C 184 p = (fin F C P).2 3 p ∧ ∀ k, k < ((fin F C P).2 3 p).toNatClampNeg → C 185 (600 * p + k) = (fin F C P).2 7 (600 * p + k) ∧ C 186 (600 * p + k) = nI (cm F ((fin F C P).2 8 (600 * p + k)).toNatClampNeg)) ∧ (∀ c, c < F.1 * F.2.1 → C 189 (cm F c) = (fin F C P).2 6 c) ∧ C 169 18 = nI (fin F C P).1
section
variable {F : Fx} {C0 A C C' : Ct} {P t p b k c : Nat} {N : Nat → Int32} {u18 : Int32} {J : Nat → Int64} {G : Ex} {Q : mE → mH → Prop}
theorem resM.same (h : resM F P C) (h1 : cfg C C') (h2 : ∀ k, 181 ≤ k → k ≤ 189 → C' k = C k) (h3 : C' 169 18 = C 169 18) : resM F P C' := by
  unfold resM at *
  rw [fin_cfg h1, h2 181 (by omega) (by omega), h2 182 (by omega) (by omega), h2 183 (by omega) (by omega), h2 184 (by omega) (by omega), h2 185 (by omega) (by omega), h2 186 (by omega) (by omega), h2 189 (by omega) (by omega), h3]
  exact h
theorem mnu_of (hF : okF F) (hS : okS F C) (hg : okG F C) (hr : rS F C) (h : ∀ wh, wh ≤ 8 → rowOkM F C wh (nuM C wh)) : mnu F C := by
  intro r hr9 c hc
  exact (num_eq hF hS hg hr (whN_gw hr9) (nuC_ok hF hS hr9) (h _ (whN_le hr9)) hc).symm
theorem repM.l18 (h : repM F C0 P u18 N A C) : C 169 18 = u18 := (h.1.2 18).trans (if_pos rfl)
/-- the run's own loop -/
theorem Y_mrun3 (hF : okF F) (hS : okS F C0) (hg : okG F C0) (hP : okP F C0 P) (hmc : mcf F C0 P) (hm : mnu F C0)
    (kk : ∀ C' N', repM F C0 P (nI (fin F C0 P).1) N' (fin F C0 P).2 C' → Q (.inl (some (.int (nI (fin F C0 P).1)))) (hp F (st C' 169 17 1) J G)) :
    ∀ d t A C N x1, t + d = 3600 → repM F C0 P (nI t) N A C → inv F C0 P t A → runF F C0 P d t A = fin F C0 P → X y_Model_run 111 [some (.ref 169), x1] [] (hp F C J G) Q := by
  have hn := hF.n
  have hP60 := hP.1
  have done : ∀ t A C N x1, repM F C0 P (nI t) N A C → fin F C0 P = (t, A) → X y_Model_run 149 [some (.ref 169), x1] [] (hp F C J G) Q := by
    intro t A C N x1 hr he
    rw [he] at kk
    repeat (refine X_n rfl rfl rfl ?_)
    refine X_s rfl rfl ?_
    refine X_h (hp_f169_17 rfl) ?_
    repeat (refine X_n rfl rfl rfl ?_)
    refine X_top (w := nI t) hr.l18 ?_
    exact X_r rfl rfl rfl rfl (kk C N hr)
  intro d
  induction d with
  | zero =>
    intro t A C N x1 hd hr hi hf
    have : t = 3600 := by omega
    subst this
    repeat (refine X_n rfl rfl rfl ?_)
    refine X_bt rfl rfl rfl (show nI 3600 ≤ C 169 18 by rw [hr.l18]; exact Int32.le_refl _) ?_
    exact done 3600 A C N _ hr hf.symm
  | succ d ih =>
    intro t A C N x1 hd hr hi hf
    repeat (refine X_n rfl rfl rfl ?_)
    refine X_bf rfl rfl rfl (show ¬ nI 3600 ≤ C 169 18 by rw [hr.l18]; exact nI_ge (by omega) (by omega)) ?_
    repeat (refine X_n rfl rfl rfl ?_)
    refine X_cd rfl rfl rfl rfl (Y_anyWaits hP hF hmc hr) ?_
    refine X_z rfl (fun q => ?_) (fun q => ?_)
    · have hw : ¬ waits P A := fun h => q (cntW_pos.mpr h)
      rw [runF, m_if_f hw] at hf
      exact done t A C N _ hr hf.symm
    · have hw : waits P A := cntW_pos.mp q
      rw [runF, m_if_t hw] at hf
      have e1 : C 169 18 + Int32.ofInt 1 = nI (t + 1) := by rw [hr.l18, nI_1']
      repeat (refine X_n rfl rfl rfl ?_)
      refine X_s rfl rfl ?_
      refine X_h (hp_f169_18 rfl) ?_
      rw [e1]
      repeat (refine X_n rfl rfl rfl ?_)
      refine X_top (w := nI (t + 1)) st_s ?_
      refine X_k rfl rfl rfl rfl (Y_second hF hS hg hP hmc hm (hr.lst (v := nI (t + 1))) (hi.mono (Nat.le_succ t)) (by omega) (fun C' N' hr' => ?_))
      dsimp only
      iterate 1 (refine X_n rfl rfl rfl ?_)
      exact ih (t + 1) _ C' N' _ (by omega) hr' (sec_inv hF hS hP hi (by omega)) hf
/-- the persons are put in their cells -/
def repI (F : Fx) (C0 : Ct) (i : Nat) (C : Ct) : Prop :=
  ((∀ k, k < 181 ∨ 191 < k → k ≠ 169 → C k = C0 k) ∧ ∀ j, C 169 j = C0 169 j) ∧ (∀ p, p < i → repQ F (bgn C0) C p) ∧
  ∀ c, c < F.1 * F.2.1 → C 189 (cm F c) = 0 ∧ ((∃ p, p < i ∧ C0 28 c = nI p ∧ C 188 (cm F c) = nI p) ∨ ((∀ p, p < i → ¬ C0 28 c = nI p) ∧ C 188 (cm F c) = -1))
theorem repI_M (hF : okF F) (hP : okP F C0 P) (h : repI F C0 P C) (v : Int32) : repM F C0 P v (fun c => C 190 (cm F c)) (bgn C0) (st C 169 18 v) := by
  obtain ⟨⟨h1, h1'⟩, h2, h3⟩ := h
  refine ⟨⟨fun k hk h169 => ?_, fun j => ?_⟩, fun q hq => ?_, fun d hd => ?_⟩
  · rw [st_f h169]; exact h1 k hk h169
  · by_cases e : j = 18
    · subst e; rw [st_s, if_pos rfl]
    · rw [st_i e, if_neg e]; exact h1' j
  · have := h2 q hq
    unfold repQ at *
    simpa [st_r] using this
  · obtain ⟨g1, g2⟩ := h3 d hd
    have e5 : bgn C0 5 d = C0 28 d := by simp [bgn]
    have e6 : bgn C0 6 d = 0 := by simp [bgn]
    rw [st_k (by omega), st_k (by omega), st_k (by omega), e5, e6]
    refine ⟨?_, g1, rfl⟩
    rcases g2 with ⟨p, -, w1, w2⟩ | ⟨w1, w2⟩
    · rw [w1, w2]
    · rcases hP.2.2.2 d hd with g | ⟨p, g1, g2, -⟩
      · rw [g, w2]
      · exact absurd g2 (w1 p g1)
theorem Y_mrun2 (hF : okF F) (hS : okS F C0) (hg : okG F C0) (hP : okP F C0 P) (hmc : mcf F C0 P) (hm : mnu F C0)
    (kk : ∀ C' N', repM F C0 P (nI (fin F C0 P).1) N' (fin F C0 P).2 C' → Q (.inl (some (.int (nI (fin F C0 P).1)))) (hp F (st C' 169 17 1) J G)) :
    ∀ d i C, i + d = P → repI F C0 i C → X y_Model_run 40 [some (.ref 169), some (.int (nI i))] [] (hp F C J G) Q := by
  have hn := hF.n
  have hP60 := hP.1
  have e9 : ∀ C i, repI F C0 i C → C 169 9 = nI P := fun C i h => (h.1.2 9).trans hmc.2.1
  intro d
  induction d with
  | zero =>
    intro i C hd hr
    have : i = P := by omega
    subst this
    repeat (refine X_n rfl rfl rfl ?_)
    refine X_bt rfl rfl rfl (show C 169 9 ≤ nI i by rw [e9 C i hr]; exact Int32.le_refl _) ?_
    repeat (refine X_n rfl rfl rfl ?_)
    refine X_s rfl rfl ?_
    refine X_h (hp_f169_18 rfl) ?_
    exact Y_mrun3 hF hS hg hP hmc hm kk 3600 0 (bgn C0) _ _ _ (by omega) (repI_M hF hP hr _) (bgn_inv hF hS hP) rfl
  | succ d ih =>
    intro i C hd hr
    have hiP : i < P := by omega
    have h60 : i < 60 := by omega
    have hs := s0_lt hF hP hiP
    have hc5 := (cm_in hF hs.1).2.2.2
    have e175 : C 175 i = nI (cm F (s0 C0 i)) := by rw [hr.1.1 175 (by omega) (by omega)]; exact (hmc.2.2.1 i hiP).1
    repeat (refine X_n rfl rfl rfl ?_)
    refine X_bf rfl rfl rfl (show ¬ C 169 9 ≤ nI i by rw [e9 C i hr]; exact nI_ge hiP (by omega)) ?_
    repeat (refine X_n rfl rfl rfl ?_)
    refine X_sa rfl rfl rfl hF (show i < 60 from h60) ?_
    repeat (refine X_n rfl rfl rfl ?_)
    refine X_sa rfl rfl rfl hF (show i < 60 from h60) ?_
    repeat (refine X_n rfl rfl rfl ?_)
    refine X_sa rfl rfl rfl hF (show i < 60 from h60) ?_
    repeat (refine X_n rfl rfl rfl ?_)
    refine X_sa rfl rfl rfl hF (show i < 60 from h60) ?_
    repeat (refine X_n rfl rfl rfl ?_)
    refine X_la rfl rfl rfl hF (show i < 60 from h60) ?_
    refine X_top (w := nI (cm F (s0 C0 i))) e175 ?_
    refine X_sa rfl rfl rfl hF (show i < 60 from h60) ?_
    repeat (refine X_n rfl rfl rfl ?_)
    refine X_la rfl rfl rfl hF (show i < 60 from h60) ?_
    refine X_top (w := nI (cm F (s0 C0 i))) e175 ?_
    repeat (refine X_n rfl rfl rfl ?_)
    refine X_sa rfl rfl rfl hF (show cm F (s0 C0 i) < 576 from hc5) ?_
    iterate 2 (refine X_n rfl rfl rfl ?_)
    rw [nI_1']
    obtain ⟨⟨h1, h1'⟩, h2, h3⟩ := hr
    refine ih (i + 1) _ (by omega) ⟨⟨fun k hk h169 => ?_, fun j => ?_⟩, fun q hq => ?_, fun c hc => ?_⟩
    · rw [st_f (by omega), st_f (by omega), st_f (by omega), st_f (by omega), st_f (by omega), st_f (by omega)]; exact h1 k hk h169
    · rw [st_f (by omega), st_f (by omega), st_f (by omega), st_f (by omega), st_f (by omega), st_f (by omega)]; exact h1' j
    · by_cases e : q = i
      · subst e
        unfold repQ
        have e4 : pA (bgn C0) q = s0 C0 q := by unfold pA s0; simp [bgn]
        have e3 : bgn C0 3 q = 0 := by simp [bgn]
        refine ⟨by simp [st_r, bgn], by simp [st_r, bgn], by simp [st_r, bgn], by simp [st_r, bgn], fun _ => by rw [e4]; simp [st_r], fun k hk => ?_⟩
        rw [e3] at hk
        exact absurd hk (by decide +revert)
      · have := h2 q (by omega)
        unfold repQ at *
        simpa [st_r, e] using this
    · obtain ⟨g1, g2⟩ := h3 c hc
      refine ⟨by simpa [st_r] using g1, ?_⟩
      have e1 := cm_eqP hF hc hs.1
      obtain ⟨⟨c', c1, c2, c3, -⟩, -⟩ := hP.2.2.1 i hiP
      have ecc : c' = s0 C0 i := (nI_eq (by omega) (by omega)).mp (c2.symm.trans hs.2.1)
      rw [ecc] at c3
      by_cases e : c = s0 C0 i
      · subst e
        exact Or.inl ⟨i, by omega, c3, by simp [st_r]⟩
      · have hv : ∀ v, (st (st (st (st (st (st C 181 i (Int32.ofInt 0)) 182 i (Int32.ofInt (-1))) 183 i (Int32.ofInt (-1))) 184 i (Int32.ofInt 0)) 187 i (nI (cm F (s0 C0 i)))) 188 (cm F (s0 C0 i)) v 188 (cm F c)) = C 188 (cm F c) := fun v => by simp [st_r, e1, e]
        have hne : ¬ C0 28 c = nI i := fun w => by
          rcases hP.2.2.2 c hc with g | ⟨p, g1, g2, g3⟩
          · rw [g] at w; exact absurd w.symm (nI_nm1 (by omega))
          · have : p = i := (nI_eq (by omega) (by omega)).mp (g2.symm.trans w)
            subst this
            exact e ((nI_eq (by omega) (by omega)).mp (g3.symm.trans hs.2.1))
        rcases g2 with ⟨p, w0, w1, w2⟩ | ⟨w1, w2⟩
        · exact Or.inl ⟨p, by omega, w1, (hv _).trans w2⟩
        · refine Or.inr ⟨fun p hp => ?_, (hv _).trans w2⟩
          by_cases ep : p = i
          · subst ep; exact hne
          · exact w1 p (by omega)
theorem Y_mrun1 (hF : okF F) (kk : X y_Model_run 38 [some (.ref 169), some (.int (nI 576))] [] (hp F (stA (stA C 188 (flt (C 188) (-1) 576)) 189 (flt (C 189) 0 576)) J G) Q) :
    ∀ d i, i + d = 576 → X y_Model_run 11 [some (.ref 169), some (.int (nI i))] [] (hp F (stA (stA C 188 (flt (C 188) (-1) i)) 189 (flt (C 189) 0 i)) J G) Q := by
  intro d
  induction d with
  | zero =>
    intro i hd
    have : i = 576 := by omega
    subst this
    repeat (refine X_n rfl rfl rfl ?_)
    refine X_bt rfl rfl rfl (Int32.le_refl _) ?_
    exact kk
  | succ d ih =>
    intro i hd
    repeat (refine X_n rfl rfl rfl ?_)
    refine X_bf rfl rfl rfl (show ¬ nI 576 ≤ nI i from nI_ge (by omega) (by omega)) ?_
    repeat (refine X_n rfl rfl rfl ?_)
    refine X_sa rfl rfl rfl hF (show i < 576 by omega) ?_
    repeat (refine X_n rfl rfl rfl ?_)
    refine X_sa rfl rfl rfl hF (show i < 576 by omega) ?_
    have e : st (st (stA (stA C 188 (flt (C 188) (-1) i)) 189 (flt (C 189) 0 i)) 188 i (Int32.ofInt (-1))) 189 i (Int32.ofInt 0) = stA (stA C 188 (flt (C 188) (-1) (i + 1))) 189 (flt (C 189) 0 (i + 1)) := by
      rw [← flt_s (C 188), ← flt_s (C 189)]
      funext k j
      simp only [st_r, stA_r, upd]
      by_cases e1 : k = 189
      · subst e1; simp
      · by_cases e2 : k = 188
        · subst e2; simp
        · simp [e1, e2]
    rw [e]
    iterate 2 (refine X_n rfl rfl rfl ?_)
    rw [nI_1']
    exact ih (i + 1) (by omega)
/-- what the reference's run leaves as it was -/
def sameS (C C' : Ct) : Prop := (∀ k, k < 179 ∨ 191 < k → k ≠ 169 → C' k = C k) ∧ ∀ j, j ≠ 0 → j ≠ 14 → j ≠ 17 → j ≠ 18 → C' 169 j = C 169 j
theorem mcf_same (h1 : cfg C C') (h2 : ∀ k, 170 ≤ k → k ≤ 178 → C' k = C k) (h3 : C' 169 7 = C 169 7) (h4 : C' 169 9 = C 169 9) (h : mcf F C P) : mcf F C' P := by
  unfold mcf rS s0 hasR at *
  rw [h3, h4, h2 170 (by omega) (by omega), h2 171 (by omega) (by omega), h2 172 (by omega) (by omega), h2 173 (by omega) (by omega), h2 175 (by omega) (by omega), h2 176 (by omega) (by omega), h2 177 (by omega) (by omega), h2 178 (by omega) (by omega), h1 1 (by omega), h1 2 (by omega), h1 3 (by omega), h1 4 (by omega), h1 5 (by omega), h1 24 (by omega), h1 25 (by omega), h1 26 (by omega), h1 27 (by omega)]
  exact h
theorem okS_cfg (h : cfg C C') (hs : okS F C) : okS F C' := by
  unfold okS okB
  rw [h 9 (by omega), h 1 (by omega), h 6 (by omega), h 5 (by omega), h 2 (by omega)]
  exact hs
theorem okG_cfg (h : cfg C C') (hg : okG F C) : okG F C' := by
  unfold okG
  rw [h 9 (by omega)]
  exact hg
theorem rowOkM_eq {wh : Nat} {row : Nat → Int32} (h : C' 170 = C 170) (h2 : C' 171 = C 171) (hr : rowOkM F C wh row) : rowOkM F C' wh row := by
  unfold rowOkM at *
  have e1 : nbM F C' = nbM F C := nbM_same h
  have e2 : glM C' = glM C := by unfold glM; rw [h2]
  have e3 : opM F C' = opM F C := by unfold opM; rw [h]
  rw [e1, e2, e3]
  exact hr
theorem Y_mrun (hF : okF F) (hS : okS F C) (hg : okG F C) (hP : okP F C P) (hmc : mcf F C P) (hMS : okMS F C) (hL : okL F C)
    (kk : ∀ C', sameS C C' → C' 169 0 = 0 → C' 169 14 = 1 → C' 169 17 = 1 → (∀ wh, wh ≤ 8 → rowOkM F C' wh (nuM C' wh)) → resM F P C' → Q (.inl (some (.int (nI (fin F C P).1)))) (hp F C' J G)) :
    Y y_Model_run [.ref 169] (hp F C J G) Q := by
  have hP60 := hP.1
  unfold Y
  repeat (refine X_n rfl rfl rfl ?_)
  refine X_s rfl rfl ?_
  refine X_h (hp_f169_0 rfl) ?_
  repeat (refine X_n rfl rfl rfl ?_)
  have s0' : ∀ k, k ≠ 169 → st C 169 0 0 k = C k := fun k hk => st_f hk
  have hMS' : okMS F (st C 169 0 0) := by
    unfold okMS opM at *
    rw [s0' 170 (by omega), s0' 171 (by omega)]; exact hMS
  have hL' : okL F (st C 169 0 0) := by
    unfold okL at *
    rw [st_i (by omega)]
    rcases hL with g | ⟨g1, g2⟩
    · exact Or.inl g
    · refine Or.inr ⟨g1, fun wh hw => ?_⟩
      have : nuM (st C 169 0 0) wh = nuM C wh := by unfold nuM; rw [s0' 179 (by omega)]
      rw [this]
      exact rowOkM_eq (s0' 170 (by omega)) (s0' 171 (by omega)) (g2 wh hw)
  refine X_c rfl rfl rfl rfl (Y_learn hF hMS' hL') ?_ ?_
  · rintro v h' ⟨C1, ev, rfl, sL, e14, hrows⟩
    cases ev
    have c1 : cfg C C1 := fun k hk => by rw [sL.1 k (by omega) (by omega) (by omega), st_f (by omega)]
    have hS1 := okS_cfg c1 hS
    have hg1 := okG_cfg c1 hg
    have hP1 := okP_cfg c1 hP
    have hmc1 : mcf F C1 P := mcf_same c1 (fun k a b => by rw [sL.1 k (by omega) (by omega) (by omega), st_f (by omega)]) (by rw [sL.2 7 (by omega), st_i (by omega)]) (by rw [sL.2 9 (by omega), st_i (by omega)]) hmc
    have hm1 := mnu_of hF hS1 hg1 hmc1.1 hrows
    have ef : fin F C1 P = fin F C P := fin_cfg c1
    have hgo := Y_mrun1 (F := F) (C := C1) (J := J) (G := G) (Q := Q) hF ?_ 576 0 (by omega)
    · rw [flt_0, flt_0, stA_self, stA_self] at hgo
      iterate 2 (refine X_n rfl rfl rfl ?_)
      exact hgo
    · iterate 2 (refine X_n rfl rfl rfl ?_)
      refine Y_mrun2 hF hS1 hg1 hP1 hmc1 hm1 (fun C' N' hr' => ?_) P 0 _ (by omega) ⟨⟨fun k hk h169 => ?_, fun j => ?_⟩, fun p hp => by omega, fun c hc => ?_⟩
      · rw [ef] at hr' ⊢
        have fr : ∀ k, k < 181 ∨ 191 < k → k ≠ 169 → st C' 169 17 1 k = C1 k := fun k a b => by rw [st_f b]; exact hr'.1.1 k a b
        have c2 : cfg C (st C' 169 17 1) := fun k hk => by rw [fr k (by omega) (by omega)]; exact c1 k hk
        have f169 : ∀ j, j ≠ 17 → j ≠ 18 → st C' 169 17 1 169 j = C1 169 j := fun j a b => by rw [st_i a, hr'.1.2 j, if_neg b]
        refine kk _ ⟨fun k a b => ?_, fun j a b c d => ?_⟩ ?_ ?_ st_s (fun wh hw => ?_) ?_
        · rw [fr k (by omega) b, sL.1 k (by omega) (by omega) b, st_f b]
        · rw [f169 j c d, sL.2 j b, st_i a]
        · rw [f169 0 (by omega) (by omega), sL.2 0 (by omega), st_s]; rfl
        · rw [f169 14 (by omega) (by omega)]; exact e14
        · have : nuM (st C' 169 17 1) wh = nuM C1 wh := by unfold nuM; rw [fr 179 (by omega) (by omega)]
          rw [this]
          exact rowOkM_eq (fr 170 (by omega) (by omega)) (fr 171 (by omega) (by omega)) (hrows wh hw)
        · unfold resM
          rw [fin_cfg c2]
          refine ⟨fun p hp => ?_, fun c hc => ?_, ?_⟩
          · obtain ⟨g0, g1, g2, g3, -, g5⟩ := hr'.2.1 p hp
            rw [st_f (by omega), st_f (by omega), st_f (by omega), st_f (by omega), st_f (by omega), st_f (by omega)]
            exact ⟨g0, g1, g2, g3, g5⟩
          · rw [st_f (by omega)]; exact (hr'.2.2 c hc).2.1
          · rw [st_i (by omega)]; exact hr'.l18
      · rw [stA_f (by omega), stA_f (by omega)]
      · rw [stA_f (by omega), stA_f (by omega)]
      · have hc5 := (cm_in hF hc).2.2.2
        refine ⟨?_, Or.inr ⟨fun p hp => by omega, ?_⟩⟩
        · rw [stA_k]
          show (if cm F c < 576 then (0 : Int32) else _) = 0
          rw [if_pos hc5]
        · rw [stA_f (by omega), stA_k]
          show (if cm F c < 576 then (-1 : Int32) else _) = -1
          rw [if_pos hc5]
  · rintro v h' ⟨C1, ev, -⟩
    cases ev
end
end
section
/-! what is asked of a run: told, through -/
theorem i32_rng {w : Int32} {m : Nat} (hm : m < 2 ^ 31) (h1 : 0 ≤ w) (h2 : w ≤ nI m) : ∃ j, j ≤ m ∧ w = nI j := by
  obtain ⟨j, hj, e⟩ := nI_of (Int32.not_lt.mpr h1)
  subst e
  exact ⟨j, (nI_leI hj hm).mp h2, rfl⟩
theorem hp_J {F : Fx} {C : Ct} {J J' : Nat → Int64} {G : Ex} : m_set (hp F C J G) 193 (mJ 1 J') = hp F C J' G := by
  refine set_ext rfl rfl (fun k hk => ?_)
  show hf F C J' G k = hf F C J G k
  by_cases q : k < 194
  · rw [hf_lt q, hf_lt q]
    unfold sh
    have : oth F.1 F.2.1 C J' k = oth F.1 F.2.1 C J k := by
      unfold oth
      split <;> first | rfl | exact absurd rfl hk
    rw [this]
  · exact hf_ge q
section
variable {F : Fx} {C : Ct} {J : Nat → Int64} {G : Ex} {Q : mE → mH → Prop} {t P : Nat}
theorem has_of {a : Int32} (hP60 : P ≤ 60) (h : C 23 5 = nI P) (ha : 0 ≤ a ∧ a < C 23 5) : ∃ p, p < P ∧ a = nI p := by
  rw [h] at ha
  obtain ⟨j, hj, e⟩ := nI_of (Int32.not_lt.mpr ha.1)
  subst e
  exact ⟨j, (nI_ltI hj (by omega)).mp ha.2, rfl⟩
theorem Y_told {a w : Int32} (hF : okF F) (hG : okX G t) (hP60 : P ≤ 60) (hP : C 23 5 = nI P) (hb : C 0 5 = 0 ∨ C 0 5 = 1)
    (k7 : ¬ (0 ≤ a ∧ a < C 23 5) ∨ ¬ (0 ≤ w ∧ w ≤ 3) → Q (.inr (194 + G.2.1)) (hp F C J (gx G 7)))
    (k8 : ∀ p j, p < P → a = nI p → j < 4 → w = nI j → C 0 5 = 0 → Q (.inr (194 + G.2.1)) (hp F C J (gx G 8)))
    (kr : ∀ p j, p < P → a = nI p → j < 4 → w = nI j → C 0 5 = 1 → Q (.inl (some (.int (C (30 + j) p)))) (hp F C J G)) :
    Y y_Esc_told [.ref 0, .int a, .int w] (hp F C J G) Q := by
  unfold Y
  repeat (refine X_n rfl rfl rfl ?_)
  refine X_cd rfl rfl rfl rfl Y_has ?_
  refine X_z rfl (fun q => ?_) (fun q => ?_)
  · exact X_w (x := 0) hG rfl rfl rfl rfl rfl (k7 (Or.inl q))
  obtain ⟨p, hp, e⟩ := has_of hP60 hP q
  repeat (refine X_n rfl rfl rfl ?_)
  refine X_cd rfl rfl rfl rfl Y_isWithin ?_
  refine X_nz rfl (fun q2 => ?_) (fun q2 => ?_)
  · obtain ⟨j, hj, e2⟩ := i32_rng (m := 3) (by omega) q2.1 q2.2
    have k8' := k8 p j hp e (by omega) e2
    have kr' := kr p j hp e (by omega) e2
    subst e
    subst e2
    repeat (refine X_n rfl rfl rfl ?_)
    rcases hb with e | e
    · refine X_bf rfl rfl rfl (show ¬ ¬ C 0 5 = 0 from fun h => h e) ?_
      exact X_w (x := 0) hG rfl rfl rfl rfl rfl (k8' e)
    · refine X_bt rfl rfl rfl (show ¬ C 0 5 = 0 from fun h => by rw [e] at h; exact absurd h (by decide)) ?_
      have kr'' := kr' e
      have hj4 : j = 0 ∨ j = 1 ∨ j = 2 ∨ j = 3 := by omega
      rcases hj4 with e | e | e | e <;> subst e
      · repeat (refine X_n rfl rfl rfl ?_)
        refine X_m rfl rfl rfl rfl rfl rfl ?_
        repeat (refine X_n rfl rfl rfl ?_)
        refine X_la rfl rfl rfl hF (show p < 60 by omega) ?_
        exact X_r rfl rfl rfl rfl kr''
      · repeat (refine X_n rfl rfl rfl ?_)
        refine X_m rfl rfl rfl rfl rfl rfl ?_
        repeat (refine X_n rfl rfl rfl ?_)
        refine X_la rfl rfl rfl hF (show p < 60 by omega) ?_
        exact X_r rfl rfl rfl rfl kr''
      · repeat (refine X_n rfl rfl rfl ?_)
        refine X_m rfl rfl rfl rfl rfl rfl ?_
        repeat (refine X_n rfl rfl rfl ?_)
        refine X_la rfl rfl rfl hF (show p < 60 by omega) ?_
        exact X_r rfl rfl rfl rfl kr''
      · repeat (refine X_n rfl rfl rfl ?_)
        refine X_m rfl rfl rfl rfl rfl rfl ?_
        repeat (refine X_n rfl rfl rfl ?_)
        refine X_la rfl rfl rfl hF (show p < 60 by omega) ?_
        exact X_r rfl rfl rfl rfl kr''
  · exact X_w (x := 0) hG rfl rfl rfl rfl rfl (k7 (Or.inr q2))
theorem Y_mtold_no {a w : Int32} (h : ¬ (0 ≤ a ∧ a < C 169 9) ∨ ¬ (0 ≤ w ∧ w ≤ 3)) : Yd y_Model_told [.ref 169, .int a, .int w] (hp F C J G) (.inl (some (.int 0))) (hp F (st C 169 0 1) J G) := by
  refine Yd_of (fun Q k => ?_)
  unfold Y
  repeat (refine X_n rfl rfl rfl ?_)
  refine X_b rfl rfl rfl (fun q1 => ?_) (fun q1 => ?_)
  · repeat (refine X_n rfl rfl rfl ?_)
    refine X_cd rfl rfl rfl rfl Y_refuses ?_
    refine X_z rfl (fun q => absurd (by decide) q) (fun _ => ?_)
    repeat (refine X_n rfl rfl rfl ?_)
    exact X_r rfl rfl rfl rfl k
  repeat (refine X_n rfl rfl rfl ?_)
  refine X_b rfl rfl rfl (fun q2 => ?_) (fun q2 => ?_)
  · repeat (refine X_n rfl rfl rfl ?_)
    refine X_cd rfl rfl rfl rfl Y_refuses ?_
    refine X_z rfl (fun q => absurd (by decide) q) (fun _ => ?_)
    repeat (refine X_n rfl rfl rfl ?_)
    exact X_r rfl rfl rfl rfl k
  repeat (refine X_n rfl rfl rfl ?_)
  refine X_b rfl rfl rfl (fun q3 => ?_) (fun q3 => ?_)
  · repeat (refine X_n rfl rfl rfl ?_)
    refine X_cd rfl rfl rfl rfl Y_refuses ?_
    refine X_z rfl (fun q => absurd (by decide) q) (fun _ => ?_)
    repeat (refine X_n rfl rfl rfl ?_)
    exact X_r rfl rfl rfl rfl k
  repeat (refine X_n rfl rfl rfl ?_)
  refine X_b rfl rfl rfl (fun q4 => ?_) (fun q4 => ?_)
  · exfalso
    rcases h with h | h
    · exact h ⟨Int32.not_lt.mp q1, Int32.not_le.mp q2⟩
    · exact h ⟨Int32.not_lt.mp q3, q4⟩
  · repeat (refine X_n rfl rfl rfl ?_)
    refine X_cd rfl rfl rfl rfl Y_refuses ?_
    refine X_z rfl (fun q => absurd (by decide) q) (fun _ => ?_)
    repeat (refine X_n rfl rfl rfl ?_)
    exact X_r rfl rfl rfl rfl k
theorem Y_mtold_no2 {p j : Nat} (hP60 : P ≤ 60) (hP : C 169 9 = nI P) (hpP : p < P) (hj : j < 4) (hr : C 169 17 = 0) : Yd y_Model_told [.ref 169, .int (nI p), .int (nI j)] (hp F C J G) (.inl (some (.int 0))) (hp F (st C 169 0 2) J G) := by
  refine Yd_of (fun Q k => ?_)
  unfold Y
  repeat (refine X_n rfl rfl rfl ?_)
  refine X_bf rfl rfl rfl (nI_pos (by omega)) ?_
  repeat (refine X_n rfl rfl rfl ?_)
  refine X_bf rfl rfl rfl (show ¬ C 169 9 ≤ nI p by rw [hP]; exact nI_ge hpP (by omega)) ?_
  repeat (refine X_n rfl rfl rfl ?_)
  refine X_bf rfl rfl rfl (nI_pos (by omega)) ?_
  repeat (refine X_n rfl rfl rfl ?_)
  refine X_bt rfl rfl rfl (show nI j ≤ nI 3 from nI_le (by omega) (by omega)) ?_
  repeat (refine X_n rfl rfl rfl ?_)
  refine X_bf rfl rfl rfl (show ¬ ¬ C 169 17 = 0 from fun h => h hr) ?_
  repeat (refine X_n rfl rfl rfl ?_)
  refine X_cd rfl rfl rfl rfl Y_refuses ?_
  refine X_z rfl (fun q => absurd (by decide) q) (fun _ => ?_)
  repeat (refine X_n rfl rfl rfl ?_)
  exact X_r rfl rfl rfl rfl k
theorem Y_mtold {p j : Nat} (hF : okF F) (hP60 : P ≤ 60) (hP : C 169 9 = nI P) (hpP : p < P) (hj : j < 4) (hr : C 169 17 = 1) : Yd y_Model_told [.ref 169, .int (nI p), .int (nI j)] (hp F C J G) (.inl (some (.int (C (181 + j) p)))) (hp F (st C 169 0 0) J G) := by
  refine Yd_of (fun Q k => ?_)
  unfold Y
  repeat (refine X_n rfl rfl rfl ?_)
  refine X_bf rfl rfl rfl (nI_pos (by omega)) ?_
  repeat (refine X_n rfl rfl rfl ?_)
  refine X_bf rfl rfl rfl (show ¬ C 169 9 ≤ nI p by rw [hP]; exact nI_ge hpP (by omega)) ?_
  repeat (refine X_n rfl rfl rfl ?_)
  refine X_bf rfl rfl rfl (nI_pos (by omega)) ?_
  repeat (refine X_n rfl rfl rfl ?_)
  refine X_bt rfl rfl rfl (show nI j ≤ nI 3 from nI_le (by omega) (by omega)) ?_
  repeat (refine X_n rfl rfl rfl ?_)
  refine X_bt rfl rfl rfl (show ¬ C 169 17 = 0 from fun h => by rw [hr] at h; exact absurd h (by decide)) ?_
  repeat (refine X_n rfl rfl rfl ?_)
  refine X_cd rfl rfl rfl rfl Y_refuses ?_
  refine X_z rfl (fun _ => ?_) (fun q => absurd q (by decide))
  have hj4 : j = 0 ∨ j = 1 ∨ j = 2 ∨ j = 3 := by omega
  rcases hj4 with e | e | e | e <;> subst e
  · repeat (refine X_n rfl rfl rfl ?_)
    refine X_bf rfl rfl rfl (show ¬ ¬ nI 0 = 0 from fun h => h rfl) ?_
    repeat (refine X_n rfl rfl rfl ?_)
    refine X_la rfl rfl rfl hF (show p < 60 by omega) ?_
    repeat (refine X_n rfl rfl rfl ?_)
    exact X_r rfl rfl rfl rfl k
  · repeat (refine X_n rfl rfl rfl ?_)
    refine X_bt rfl rfl rfl (show ¬ nI 1 = 0 by decide) ?_
    repeat (refine X_n rfl rfl rfl ?_)
    refine X_bf rfl rfl rfl (show ¬ ¬ nI 1 = 1 from fun h => h rfl) ?_
    repeat (refine X_n rfl rfl rfl ?_)
    refine X_la rfl rfl rfl hF (show p < 60 by omega) ?_
    repeat (refine X_n rfl rfl rfl ?_)
    exact X_r rfl rfl rfl rfl k
  · repeat (refine X_n rfl rfl rfl ?_)
    refine X_bt rfl rfl rfl (show ¬ nI 2 = 0 by decide) ?_
    repeat (refine X_n rfl rfl rfl ?_)
    refine X_bt rfl rfl rfl (show ¬ nI 2 = 1 by decide) ?_
    repeat (refine X_n rfl rfl rfl ?_)
    refine X_bf rfl rfl rfl (show ¬ ¬ nI 2 = 2 from fun h => h rfl) ?_
    repeat (refine X_n rfl rfl rfl ?_)
    refine X_la rfl rfl rfl hF (show p < 60 by omega) ?_
    repeat (refine X_n rfl rfl rfl ?_)
    exact X_r rfl rfl rfl rfl k
  · repeat (refine X_n rfl rfl rfl ?_)
    refine X_bt rfl rfl rfl (show ¬ nI 3 = 0 by decide) ?_
    repeat (refine X_n rfl rfl rfl ?_)
    refine X_bt rfl rfl rfl (show ¬ nI 3 = 1 by decide) ?_
    repeat (refine X_n rfl rfl rfl ?_)
    refine X_bt rfl rfl rfl (show ¬ nI 3 = 2 by decide) ?_
    repeat (refine X_n rfl rfl rfl ?_)
    refine X_la rfl rfl rfl hF (show p < 60 by omega) ?_
    exact X_r rfl rfl rfl rfl k
theorem Y_through {x z : Int32} (hF : okF F) (hG : okX G t) (hb : C 0 5 = 0 ∨ C 0 5 = 1)
    (k7 : (x < 0 ∨ nI F.1 ≤ x ∨ z < 0 ∨ nI F.2.1 ≤ z) → Q (.inr (194 + G.2.1)) (hp F C J (gx G 7)))
    (k8 : ∀ i j, i < F.1 → j < F.2.1 → x = nI i → z = nI j → C 0 5 = 0 → Q (.inr (194 + G.2.1)) (hp F C J (gx G 8)))
    (kr : ∀ i j, i < F.1 → j < F.2.1 → x = nI i → z = nI j → C 0 5 = 1 → Q (.inl (some (.int (C 34 (j * F.1 + i))))) (hp F C J G)) :
    Y y_Esc_through [.ref 0, .int x, .int z] (hp F C J G) Q := by
  have hn := hF.n
  unfold Y
  repeat (refine X_n rfl rfl rfl ?_)
  refine X_k rfl rfl rfl rfl (Y_cellOfK hF (fun h => ?_) (fun i j hi hj e1 e2 => ?_))
  · dsimp only
    repeat (refine X_n rfl rfl rfl ?_)
    refine X_bf rfl rfl rfl (fun h => h rfl) ?_
    exact X_w (x := 0) hG rfl rfl rfl rfl rfl (k7 h)
  · dsimp only
    have hc := ji_lt hi hj
    repeat (refine X_n rfl rfl rfl ?_)
    refine X_bt rfl rfl rfl (nI_nm1 (by omega)) ?_
    repeat (refine X_n rfl rfl rfl ?_)
    rcases hb with e | e
    · refine X_bf rfl rfl rfl (show ¬ ¬ C 0 5 = 0 from fun h => h e) ?_
      exact X_w (x := 0) hG rfl rfl rfl rfl rfl (k8 i j hi hj e1 e2 e)
    · refine X_bt rfl rfl rfl (show ¬ C 0 5 = 0 from fun h => by rw [e] at h; exact absurd h (by decide)) ?_
      repeat (refine X_n rfl rfl rfl ?_)
      refine X_la rfl rfl rfl hF hc ?_
      exact X_r rfl rfl rfl rfl (kr i j hi hj e1 e2 e)
theorem Y_mthrough_no {x z : Int32} (h : x < 0 ∨ nI F.1 ≤ x ∨ z < 0 ∨ nI F.2.1 ≤ z) : Yd y_Model_through [.ref 169, .int x, .int z] (hp F C J G) (.inl (some (.int 0))) (hp F (st C 169 0 1) J G) := by
  refine Yd_of (fun Q k => ?_)
  unfold Y
  repeat (refine X_n rfl rfl rfl ?_)
  refine X_cd rfl rfl rfl rfl Y_isCell ?_
  refine X_nz rfl (fun q => ?_) (fun q => ?_)
  · exact absurd q (inC_no h)
  · repeat (refine X_n rfl rfl rfl ?_)
    refine X_cd rfl rfl rfl rfl Y_refuses ?_
    refine X_z rfl (fun q2 => ?_) (fun q2 => ?_)
    · exact absurd (by decide) q2
    · repeat (refine X_n rfl rfl rfl ?_)
      exact X_r rfl rfl rfl rfl k
theorem Y_mthrough_no2 {i j : Nat} (hF : okF F) (hi : i < F.1) (hj : j < F.2.1) (hr : C 169 17 = 0) : Yd y_Model_through [.ref 169, .int (nI i), .int (nI j)] (hp F C J G) (.inl (some (.int 0))) (hp F (st C 169 0 2) J G) := by
  refine Yd_of (fun Q k => ?_)
  unfold Y
  repeat (refine X_n rfl rfl rfl ?_)
  refine X_cd rfl rfl rfl rfl Y_isCell ?_
  refine X_nz rfl (fun q => ?_) (fun q => ?_)
  · repeat (refine X_n rfl rfl rfl ?_)
    refine X_bf rfl rfl rfl (show ¬ ¬ C 169 17 = 0 from fun h => h hr) ?_
    repeat (refine X_n rfl rfl rfl ?_)
    refine X_cd rfl rfl rfl rfl Y_refuses ?_
    refine X_z rfl (fun q2 => ?_) (fun q2 => ?_)
    · exact absurd (by decide) q2
    · repeat (refine X_n rfl rfl rfl ?_)
      exact X_r rfl rfl rfl rfl k
  · exact absurd (inC_yes hF hi hj) q
theorem Y_mthrough {i j : Nat} (hF : okF F) (hi : i < F.1) (hj : j < F.2.1) (hr : C 169 17 = 1) : Yd y_Model_through [.ref 169, .int (nI i), .int (nI j)] (hp F C J G) (.inl (some (.int (C 189 (24 * j + i))))) (hp F (st C 169 0 0) J G) := by
  refine Yd_of (fun Q k => ?_)
  have hm := m576 hF hi hj
  unfold Y
  repeat (refine X_n rfl rfl rfl ?_)
  refine X_cd rfl rfl rfl rfl Y_isCell ?_
  refine X_nz rfl (fun q => ?_) (fun q => ?_)
  · repeat (refine X_n rfl rfl rfl ?_)
    refine X_bt rfl rfl rfl (show ¬ C 169 17 = 0 from fun h => by rw [hr] at h; exact absurd h (by decide)) ?_
    repeat (refine X_n rfl rfl rfl ?_)
    refine X_cd rfl rfl rfl rfl Y_refuses ?_
    refine X_z rfl (fun q2 => ?_) (fun q2 => ?_)
    · repeat (refine X_n rfl rfl rfl ?_)
      refine X_cd rfl rfl rfl rfl (Y_mcell _) ?_
      refine X_la rfl rfl rfl hF (show 24 * j + i < 576 from hm) ?_
      exact X_r rfl rfl rfl rfl k
    · exact absurd q2 (by decide)
  · exact absurd (inC_yes hF hi hj) q
end
end
section
/-! what is asked of a run: at, left -/
/-- where a person is behind a second: the steps from k on -/
def wk (A : Ct) (p : Nat) (s : Int32) : Nat → Nat → Nat → Nat
  | 0, _, c => c
  | d + 1, k, c => if A 7 (600 * p + k) ≤ s then wk A p s d (k + 1) (A 8 (600 * p + k)).toNatClampNeg else c
def pl (C A : Ct) (p : Nat) (s : Int32) : Nat := wk A p s (A 3 p).toNatClampNeg 0 (s0 C p)
def inB (A : Ct) (p : Nat) (s : Int32) : Prop := ¬ (0 ≤ A 1 p ∧ A 1 p ≤ s)
def cqP (A C : Ct) (p : Nat) : Prop := C 30 p = A 0 p ∧ C 31 p = A 1 p ∧ C 32 p = A 2 p ∧ C 33 p = A 3 p ∧ ∀ k, k < (A 3 p).toNatClampNeg → C (39 + p) k = A 7 (600 * p + k) ∧ C (100 + p) k = A 8 (600 * p + k)
def mqP (F : Fx) (A C : Ct) (p : Nat) : Prop := C 181 p = A 0 p ∧ C 182 p = A 1 p ∧ C 183 p = A 2 p ∧ C 184 p = A 3 p ∧ ∀ k, k < (A 3 p).toNatClampNeg → C 185 (600 * p + k) = A 7 (600 * p + k) ∧ C 186 (600 * p + k) = nI (cm F (A 8 (600 * p + k)).toNatClampNeg)
section
variable {F : Fx} {C A : Ct} {J : Nat → Int64} {G : Ex} {Q : mE → mH → Prop} {t T P p : Nat} {s : Int32}
theorem wk_lt {k0 : Nat} (hn : F.1 * F.2.1 ≤ 576) (h : ∀ j, j < k0 → ∃ c, c < F.1 * F.2.1 ∧ A 8 (600 * p + j) = nI c) : ∀ d k c, k + d = k0 → c < F.1 * F.2.1 → wk A p s d k c < F.1 * F.2.1 := by
  intro d
  induction d with
  | zero => intro k c _ hc; exact hc
  | succ d ih =>
    intro k c hk hc
    rw [wk]
    split
    · obtain ⟨x, hx, e⟩ := h k (by omega)
      exact ih (k + 1) _ (by omega) (by rw [e, nI_clamp (by omega)]; exact hx)
    · exact hc
theorem pl_lt (hF : okF F) (hP : okP F C P) (hp : p < P) (h : pinv F C T A p) : pl C A p s < F.1 * F.2.1 := by
  have hn := hF.n
  obtain ⟨-, ⟨k, k1, k2, k3, -⟩, -⟩ := h
  unfold pl
  rw [k1, nI_clamp (by omega)]
  exact wk_lt (k0 := k) hn (fun j hj => (k3 j hj).2) k 0 _ (by omega) (s0_lt hF hP hp).1
theorem inB_iff (hi : pinv F C T A p) (hT : T ≤ 3600) : (A 0 p = 0 ∨ s < A 1 p) ↔ inB A p s := by
  obtain ⟨-, -, h⟩ := hi
  unfold inB
  rcases h with ⟨h0, h1⟩ | ⟨h0, e, he, h1⟩
  · rw [h1]
    exact ⟨fun _ g => absurd g.1 (by decide), fun _ => Or.inl h0⟩
  · rw [h1]
    have hne : ¬ A 0 p = 0 := by rcases h0 with g | g <;> rw [g] <;> decide
    exact ⟨fun g q => by
      rcases g with g | g
      · exact hne g
      · exact Int32.not_lt.mpr q.2 g, fun g => Or.inr (Classical.byContradiction fun q => g ⟨nI_pos' (by omega), Int32.not_lt.mp q⟩)⟩
theorem Y_isIn (hF : okF F) (hp60 : p < 60) : Yd y_Flight_isInCellBehind [.ref 29, .int (nI p), .int s] (hp F C J G) (.inl (some (.int (bI (decide (C 30 p = 0 ∨ s < C 31 p)))))) (hp F C J G) := by
  refine Yd_of (fun Q k => ?_)
  unfold Y
  repeat (refine X_n rfl rfl rfl ?_)
  refine X_la rfl rfl rfl hF (show p < 60 from hp60) ?_
  refine X_b rfl rfl rfl (fun q => ?_) (fun q => ?_)
  · have q : C 30 p = 0 := q
    rw [decide_eq_true (Or.inl q)] at k
    repeat (refine X_n rfl rfl rfl ?_)
    exact X_r rfl rfl rfl rfl k
  · repeat (refine X_n rfl rfl rfl ?_)
    refine X_la rfl rfl rfl hF (show p < 60 from hp60) ?_
    repeat (refine X_n rfl rfl rfl ?_)
    refine X_b rfl rfl rfl (fun q2 => ?_) (fun q2 => ?_)
    · rw [decide_eq_false (fun h => h.elim q (fun g => Int32.not_lt.mpr q2 g))] at k
      repeat (refine X_n rfl rfl rfl ?_)
      exact X_r rfl rfl rfl rfl k
    · rw [decide_eq_true (Or.inr (Int32.not_le.mp q2))] at k
      repeat (refine X_n rfl rfl rfl ?_)
      exact X_r rfl rfl rfl rfl k
theorem Y_cellBehind_loop {k0 : Nat} (hF : okF F) (hp60 : p < 60) (hq : cqP A C p) (e3 : A 3 p = nI k0) (hk0 : k0 < F.1 * F.2.1) (h8 : ∀ j, j < k0 → ∃ c, c < F.1 * F.2.1 ∧ A 8 (600 * p + j) = nI c) :
    ∀ d k c, k + d = k0 → Q (.inl (some (.int (nI (wk A p s d k c))))) (hp F C J G) → X y_Flight_cellBehind 24 [some (.ref 29), some (.int (nI p)), some (.int s), some (.int (nI c)), some (.int (nI k))] [] (hp F C J G) Q := by
  have hn := hF.n
  obtain ⟨g0, g1, g2, g3, g7⟩ := hq
  rw [e3, nI_clamp (by omega)] at g7
  intro d
  induction d with
  | zero =>
    intro k c hk kk
    have : k = k0 := by omega
    subst this
    repeat (refine X_n rfl rfl rfl ?_)
    refine X_la rfl rfl rfl hF (show p < 60 from hp60) ?_
    refine X_top (g3.trans e3) ?_
    refine X_bt rfl rfl rfl (Int32.le_refl _) ?_
    repeat (refine X_n rfl rfl rfl ?_)
    exact X_r rfl rfl rfl rfl kk
  | succ d ih =>
    intro k c hk kk
    rw [wk] at kk
    repeat (refine X_n rfl rfl rfl ?_)
    refine X_la rfl rfl rfl hF (show p < 60 from hp60) ?_
    refine X_top (g3.trans e3) ?_
    refine X_bf rfl rfl rfl (show ¬ nI k0 ≤ nI k from nI_ge (by omega) (by omega)) ?_
    repeat (refine X_n rfl rfl rfl ?_)
    refine X_ln rfl rfl rfl rfl rfl hp60 (show 60 < 2 ^ 31 by omega) ?_
    repeat (refine X_n rfl rfl rfl ?_)
    refine X_li rfl (hp_at (kd_ss p hp60).1 (ln_0 (kd_ss p hp60).2)) rfl (show k < F.1 * F.2.1 by omega) (by omega) ?_
    refine X_top (g7 k (by omega)).1 ?_
    repeat (refine X_n rfl rfl rfl ?_)
    refine X_b rfl rfl rfl (fun q => ?_) (fun q => ?_)
    · rw [if_neg (Int32.not_le.mpr q)] at kk
      repeat (refine X_n rfl rfl rfl ?_)
      exact X_r rfl rfl rfl rfl kk
    · rw [if_pos (Int32.not_lt.mp q)] at kk
      obtain ⟨x, hx, e8⟩ := h8 k (by omega)
      rw [e8, nI_clamp (by omega)] at kk
      repeat (refine X_n rfl rfl rfl ?_)
      refine X_ln rfl rfl rfl rfl rfl hp60 (show 60 < 2 ^ 31 by omega) ?_
      repeat (refine X_n rfl rfl rfl ?_)
      refine X_li rfl (hp_at (kd_sc p hp60).1 (ln_0 (kd_sc p hp60).2)) rfl (show k < F.1 * F.2.1 by omega) (by omega) ?_
      refine X_top ((g7 k (by omega)).2.trans e8) ?_
      iterate 3 (refine X_n rfl rfl rfl ?_)
      rw [nI_1']
      exact ih (k + 1) x (by omega) kk
theorem Y_cellBehind (hF : okF F) (hP : okP F C P) (hpP : p < P) (hq : cqP A C p) (hi : pinv F C T A p) (hT : T ≤ 3600)
    (kn : ¬ inB A p s → Q (.inl (some (.int (-1)))) (hp F C J G)) (ky : inB A p s → Q (.inl (some (.int (nI (pl C A p s))))) (hp F C J G)) : Y y_Flight_cellBehind [.ref 29, .int (nI p), .int s] (hp F C J G) Q := by
  have hn := hF.n
  have hP60 := hP.1
  have hs := s0_lt hF hP hpP
  obtain ⟨-, ⟨k, k1, k2, k3, -⟩, -⟩ := id hi
  have hib := inB_iff (s := s) hi hT
  unfold Y
  repeat (refine X_n rfl rfl rfl ?_)
  refine X_cd rfl rfl rfl rfl (Y_isIn hF (show p < 60 by omega)) ?_
  refine X_nz rfl (fun q => ?_) (fun q => ?_)
  · have q : inB A p s := hib.mp (by rw [← hq.1, ← hq.2.1]; exact q)
    have ky := ky q
    unfold pl at ky
    rw [k1, nI_clamp (by omega)] at ky
    repeat (refine X_n rfl rfl rfl ?_)
    refine X_la rfl rfl rfl hF (show p < 60 by omega) ?_
    refine X_top hs.2.1 ?_
    iterate 3 (refine X_n rfl rfl rfl ?_)
    exact Y_cellBehind_loop hF (by omega) hq k1 (by omega) (fun j hj => (k3 j hj).2) k 0 _ (by omega) ky
  · repeat (refine X_n rfl rfl rfl ?_)
    exact X_r rfl rfl rfl rfl (kn (fun g => q (by rw [hq.1, hq.2.1]; exact hib.mpr g)))
theorem Y_placeAt_loop {k0 : Nat} (hF : okF F) (hp60 : p < 60) (hq : mqP F A C p) (e3 : A 3 p = nI k0) (hk0 : k0 < F.1 * F.2.1) :
    ∀ d k c, k + d = k0 → Q (.inl (some (.int (nI (cm F (wk A p s d k c)))))) (hp F C J G) → X y_Model_placeAt 31 [some (.ref 169), some (.int (nI p)), some (.int s), some (.int (nI (cm F c))), some (.int (nI k))] [] (hp F C J G) Q := by
  have hn := hF.n
  obtain ⟨g0, g1, g2, g3, g7⟩ := hq
  rw [e3, nI_clamp (by omega)] at g7
  intro d
  induction d with
  | zero =>
    intro k c hk kk
    have : k = k0 := by omega
    subst this
    repeat (refine X_n rfl rfl rfl ?_)
    refine X_la rfl rfl rfl hF (show p < 60 from hp60) ?_
    refine X_top (g3.trans e3) ?_
    refine X_bt rfl rfl rfl (Int32.le_refl _) ?_
    repeat (refine X_n rfl rfl rfl ?_)
    exact X_r rfl rfl rfl rfl kk
  | succ d ih =>
    intro k c hk kk
    rw [wk] at kk
    repeat (refine X_n rfl rfl rfl ?_)
    refine X_la rfl rfl rfl hF (show p < 60 from hp60) ?_
    refine X_top (g3.trans e3) ?_
    refine X_bf rfl rfl rfl (show ¬ nI k0 ≤ nI k from nI_ge (by omega) (by omega)) ?_
    repeat (refine X_n rfl rfl rfl ?_)
    refine X_la (k := 600 * p + k) rfl rfl (e600 p k) hF (show 600 * p + k < 36000 by omega) ?_
    refine X_top (g7 k (by omega)).1 ?_
    repeat (refine X_n rfl rfl rfl ?_)
    refine X_b rfl rfl rfl (fun q => ?_) (fun q => ?_)
    · rw [if_neg (Int32.not_le.mpr q)] at kk
      repeat (refine X_n rfl rfl rfl ?_)
      exact X_r rfl rfl rfl rfl kk
    · rw [if_pos (Int32.not_lt.mp q)] at kk
      repeat (refine X_n rfl rfl rfl ?_)
      refine X_la (k := 600 * p + k) rfl rfl (e600 p k) hF (show 600 * p + k < 36000 by omega) ?_
      refine X_top (g7 k (by omega)).2 ?_
      iterate 3 (refine X_n rfl rfl rfl ?_)
      rw [nI_1']
      exact ih (k + 1) _ (by omega) kk
theorem Y_placeAt (hF : okF F) (hP : okP F C P) (hmc : mcf F C P) (hpP : p < P) (hq : mqP F A C p) (hi : pinv F C T A p) (hT : T ≤ 3600)
    (kn : ¬ inB A p s → Q (.inl (some (.int (-1)))) (hp F C J G)) (ky : inB A p s → Q (.inl (some (.int (nI (cm F (pl C A p s)))))) (hp F C J G)) : Y y_Model_placeAt [.ref 169, .int (nI p), .int s] (hp F C J G) Q := by
  have hn := hF.n
  have hP60 := hP.1
  obtain ⟨-, ⟨k, k1, k2, k3, -⟩, -⟩ := hi
  have e1 := hq.2.1
  have go : inB A p s → X y_Model_placeAt 21 [some (.ref 169), some (.int (nI p)), some (.int s), none, none] [] (hp F C J G) Q := by
    intro q
    have ky := ky q
    unfold pl at ky
    rw [k1, nI_clamp (by omega)] at ky
    repeat (refine X_n rfl rfl rfl ?_)
    refine X_la rfl rfl rfl hF (show p < 60 by omega) ?_
    refine X_top (hmc.2.2.1 p hpP).1 ?_
    iterate 3 (refine X_n rfl rfl rfl ?_)
    exact Y_placeAt_loop hF (by omega) hq k1 (by omega) k 0 _ (by omega) ky
  unfold Y
  repeat (refine X_n rfl rfl rfl ?_)
  refine X_la rfl rfl rfl hF (show p < 60 by omega) ?_
  rw [e1]
  refine X_b rfl rfl rfl (fun q1 => ?_) (fun q1 => ?_)
  · exact go (fun g => Int32.not_lt.mpr g.1 q1)
  · repeat (refine X_n rfl rfl rfl ?_)
    refine X_la rfl rfl rfl hF (show p < 60 by omega) ?_
    rw [e1]
    repeat (refine X_n rfl rfl rfl ?_)
    refine X_b rfl rfl rfl (fun q2 => ?_) (fun q2 => ?_)
    · exact go (fun g => Int32.not_lt.mpr g.2 q2)
    · repeat (refine X_n rfl rfl rfl ?_)
      exact X_r rfl rfl rfl rfl (kn (fun g => g ⟨Int32.not_lt.mp q1, Int32.not_lt.mp q2⟩))
theorem Y_at {a s x : Int32} (hF : okF F) (hG : okX G t) (hP : okP F C P) (hb : C 0 5 = 0 ∨ C 0 5 = 1) (hr : C 0 5 = 1 → ∀ p, p < P → cqP A C p ∧ pinv F C T A p) (hT : T ≤ 3600) (hxy : ∀ c, c < F.1 * F.2.1 → C 7 c = nI (c % F.1) ∧ C 8 c = nI (c / F.1))
    (k7 : ¬ (0 ≤ a ∧ a < C 23 5) ∨ ¬ (0 ≤ s ∧ s ≤ 3600) ∨ ¬ (0 ≤ x ∧ x ≤ 1) → Q (.inr (194 + G.2.1)) (hp F C J (gx G 7)))
    (k8 : ∀ p j, p < P → a = nI p → (0 ≤ s ∧ s ≤ 3600) → j < 2 → x = nI j → C 0 5 = 0 → Q (.inr (194 + G.2.1)) (hp F C J (gx G 8)))
    (kn : ∀ p j, p < P → a = nI p → (0 ≤ s ∧ s ≤ 3600) → j < 2 → x = nI j → C 0 5 = 1 → ¬ inB A p s → Q (.inl (some (.int (-1)))) (hp F C J G))
    (ky : ∀ p j, p < P → a = nI p → (0 ≤ s ∧ s ≤ 3600) → j < 2 → x = nI j → C 0 5 = 1 → inB A p s → Q (.inl (some (.int (if j = 0 then nI (pl C A p s % F.1) else nI (pl C A p s / F.1))))) (hp F C J G)) :
    Y y_Esc_at [.ref 0, .int a, .int s, .int x] (hp F C J G) Q := by
  have hn := hF.n
  have hP60 := hP.1
  unfold Y
  repeat (refine X_n rfl rfl rfl ?_)
  refine X_cd rfl rfl rfl rfl Y_has ?_
  refine X_z rfl (fun q => ?_) (fun q => ?_)
  · exact X_w (x := 0) hG rfl rfl rfl rfl rfl (k7 (Or.inl q))
  obtain ⟨p, hpP, e⟩ := has_of hP60 hP.2.1 q
  repeat (refine X_n rfl rfl rfl ?_)
  refine X_cd rfl rfl rfl rfl Y_isWithin ?_
  refine X_z rfl (fun q2 => ?_) (fun q2 => ?_)
  · exact X_w (x := 0) hG rfl rfl rfl rfl rfl (k7 (Or.inr (Or.inl q2)))
  repeat (refine X_n rfl rfl rfl ?_)
  refine X_cd rfl rfl rfl rfl Y_isWithin ?_
  refine X_nz rfl (fun q3 => ?_) (fun q3 => ?_)
  · obtain ⟨j, hj, e2⟩ := i32_rng (m := 1) (by omega) q3.1 q3.2
    repeat (refine X_n rfl rfl rfl ?_)
    rcases hb with e0 | e0
    · refine X_bf rfl rfl rfl (show ¬ ¬ C 0 5 = 0 from fun h => h e0) ?_
      exact X_w (x := 0) hG rfl rfl rfl rfl rfl (k8 p j hpP e q2 (by omega) e2 e0)
    · refine X_bt rfl rfl rfl (show ¬ C 0 5 = 0 from fun h => by rw [e0] at h; exact absurd h (by decide)) ?_
      obtain ⟨hq, hi⟩ := hr e0 p hpP
      have kn := kn p j hpP e q2 (by omega) e2 e0
      have ky := ky p j hpP e q2 (by omega) e2 e0
      rw [e]
      repeat (refine X_n rfl rfl rfl ?_)
      refine X_k rfl rfl rfl rfl (Y_cellBehind hF hP hpP hq hi hT (fun w => ?_) (fun w => ?_))
      · dsimp only
        repeat (refine X_n rfl rfl rfl ?_)
        refine X_bf rfl rfl rfl (fun h => h rfl) ?_
        repeat (refine X_n rfl rfl rfl ?_)
        exact X_r rfl rfl rfl rfl (kn w)
      · have hpl := pl_lt (s := s) hF hP hpP hi
        have ky := ky w
        dsimp only
        repeat (refine X_n rfl rfl rfl ?_)
        refine X_bt rfl rfl rfl (nI_nm1 (by omega)) ?_
        rw [e2]
        repeat (refine X_n rfl rfl rfl ?_)
        have hj2 : j = 0 ∨ j = 1 := by omega
        rcases hj2 with ej | ej
        · subst ej
          refine X_bf rfl rfl rfl (show ¬ ¬ nI 0 = 0 from fun h => h rfl) ?_
          repeat (refine X_n rfl rfl rfl ?_)
          refine X_la rfl rfl rfl hF hpl ?_
          rw [(hxy _ hpl).1]
          repeat (refine X_n rfl rfl rfl ?_)
          exact X_r rfl rfl rfl rfl ky
        · subst ej
          refine X_bt rfl rfl rfl (show ¬ nI 1 = 0 by decide) ?_
          repeat (refine X_n rfl rfl rfl ?_)
          refine X_la rfl rfl rfl hF hpl ?_
          rw [(hxy _ hpl).2]
          exact X_r rfl rfl rfl rfl ky
  · exact X_w (x := 0) hG rfl rfl rfl rfl rfl (k7 (Or.inr (Or.inr q3)))
theorem Y_mat_no {a s x : Int32} (h : ¬ (0 ≤ a ∧ a < C 169 9) ∨ ¬ (0 ≤ s ∧ s ≤ 3600) ∨ ¬ (0 ≤ x ∧ x ≤ 1)) : Yd y_Model_at [.ref 169, .int a, .int s, .int x] (hp F C J G) (.inl (some (.int 0))) (hp F (st C 169 0 1) J G) := by
  refine Yd_of (fun Q k => ?_)
  have bad : ∀ L, L = [some (.ref 169), some (.int a), some (.int s), some (.int x), none, none] → X y_Model_at 36 L [] (hp F C J G) Q := by
    intro L hL
    subst hL
    repeat (refine X_n rfl rfl rfl ?_)
    refine X_bf rfl rfl rfl (fun h => h rfl) ?_
    repeat (refine X_n rfl rfl rfl ?_)
    refine X_cd rfl rfl rfl rfl Y_refuses ?_
    refine X_z rfl (fun q => absurd (by decide) q) (fun _ => ?_)
    repeat (refine X_n rfl rfl rfl ?_)
    exact X_r rfl rfl rfl rfl k
  unfold Y
  repeat (refine X_n rfl rfl rfl ?_)
  refine X_b rfl rfl rfl (fun q1 => ?_) (fun q1 => ?_)
  · exact bad _ rfl
  repeat (refine X_n rfl rfl rfl ?_)
  refine X_b rfl rfl rfl (fun q2 => ?_) (fun q2 => ?_)
  · exact bad _ rfl
  repeat (refine X_n rfl rfl rfl ?_)
  refine X_b rfl rfl rfl (fun q3 => ?_) (fun q3 => ?_)
  · exact bad _ rfl
  repeat (refine X_n rfl rfl rfl ?_)
  refine X_b rfl rfl rfl (fun q4 => ?_) (fun q4 => ?_)
  · exact bad _ rfl
  repeat (refine X_n rfl rfl rfl ?_)
  refine X_b rfl rfl rfl (fun q5 => ?_) (fun q5 => ?_)
  · exact bad _ rfl
  repeat (refine X_n rfl rfl rfl ?_)
  refine X_b rfl rfl rfl (fun q6 => ?_) (fun q6 => ?_)
  · exact bad _ rfl
  exfalso
  rcases h with h | h | h
  · exact h ⟨Int32.not_lt.mp q1, Int32.not_le.mp q2⟩
  · exact h ⟨Int32.not_lt.mp q3, Int32.not_lt.mp q4⟩
  · refine h ⟨Int32.not_lt.mp q5, ?_⟩
    have q6 : x < nI 2 := Int32.not_le.mp q6
    obtain ⟨j, hj, e⟩ := nI_of q5
    subst e
    have := (nI_ltI hj (by omega)).mp q6
    exact nI_le (b := 1) (by omega) (by omega)
theorem Y_mat_ok {p j : Nat} {s : Int32} {L : mL} (hP60 : P ≤ 60) (hP : C 169 9 = nI P) (hpP : p < P) (hs : 0 ≤ s ∧ s ≤ 3600) (hj : j < 2)
    (kk : X y_Model_at 49 [some (.ref 169), some (.int (nI p)), some (.int s), some (.int (nI j)), some (.int 1), none] [.ref 169] (hp F C J G) Q) : Y y_Model_at [.ref 169, .int (nI p), .int s, .int (nI j)] (hp F C J G) Q := by
  unfold Y
  repeat (refine X_n rfl rfl rfl ?_)
  refine X_bf rfl rfl rfl (nI_pos (by omega)) ?_
  repeat (refine X_n rfl rfl rfl ?_)
  refine X_bf rfl rfl rfl (show ¬ C 169 9 ≤ nI p by rw [hP]; exact nI_ge hpP (by omega)) ?_
  repeat (refine X_n rfl rfl rfl ?_)
  refine X_bf rfl rfl rfl (Int32.not_lt.mpr hs.1) ?_
  repeat (refine X_n rfl rfl rfl ?_)
  refine X_bf rfl rfl rfl (Int32.not_lt.mpr hs.2) ?_
  repeat (refine X_n rfl rfl rfl ?_)
  refine X_bf rfl rfl rfl (nI_pos (by omega)) ?_
  repeat (refine X_n rfl rfl rfl ?_)
  refine X_bf rfl rfl rfl (show ¬ nI 2 ≤ nI j from nI_ge (by omega) (by omega)) ?_
  repeat (refine X_n rfl rfl rfl ?_)
  refine X_bt rfl rfl rfl (show ¬ (1 : Int32) = 0 by decide) ?_
  exact kk
theorem Y_mat_no2 {p j : Nat} {s : Int32} (hP60 : P ≤ 60) (hP : C 169 9 = nI P) (hpP : p < P) (hs : 0 ≤ s ∧ s ≤ 3600) (hj : j < 2) (hr : C 169 17 = 0) : Yd y_Model_at [.ref 169, .int (nI p), .int s, .int (nI j)] (hp F C J G) (.inl (some (.int 0))) (hp F (st C 169 0 2) J G) := by
  refine Yd_of (fun Q k => ?_)
  refine Y_mat_ok (L := []) hP60 hP hpP hs hj ?_
  repeat (refine X_n rfl rfl rfl ?_)
  refine X_bf rfl rfl rfl (show ¬ ¬ C 169 17 = 0 from fun h => h hr) ?_
  repeat (refine X_n rfl rfl rfl ?_)
  refine X_cd rfl rfl rfl rfl Y_refuses ?_
  refine X_z rfl (fun q => absurd (by decide) q) (fun _ => ?_)
  repeat (refine X_n rfl rfl rfl ?_)
  exact X_r rfl rfl rfl rfl k
theorem Y_mat {p j : Nat} {s : Int32} (hF : okF F) (hPP : okP F C P) (hmc : mcf F C P) (hpP : p < P) (hs : 0 ≤ s ∧ s ≤ 3600) (hj : j < 2) (hr : C 169 17 = 1) (hq : mqP F A C p) (hi : pinv F C T A p) (hT : T ≤ 3600)
    (kn : ¬ inB A p s → Q (.inl (some (.int (-1)))) (hp F (st C 169 0 0) J G)) (ky : inB A p s → Q (.inl (some (.int (if j = 0 then nI (pl C A p s % F.1) else nI (pl C A p s / F.1))))) (hp F (st C 169 0 0) J G)) : Y y_Model_at [.ref 169, .int (nI p), .int s, .int (nI j)] (hp F C J G) Q := by
  have hn := hF.n
  have hP60 := hPP.1
  refine Y_mat_ok (L := []) hP60 hmc.2.1 hpP hs hj ?_
  repeat (refine X_n rfl rfl rfl ?_)
  refine X_bt rfl rfl rfl (show ¬ C 169 17 = 0 from fun h => by rw [hr] at h; exact absurd h (by decide)) ?_
  repeat (refine X_n rfl rfl rfl ?_)
  refine X_cd rfl rfl rfl rfl Y_refuses ?_
  refine X_z rfl (fun _ => ?_) (fun q => absurd q (by decide))
  rw [show st C 169 0 (Int32.ofInt 0) = st C 169 0 0 from rfl]
  have c0 : cfg C (st C 169 0 0) := fun k hk => st_f (by omega)
  have fk : ∀ k, k ≠ 169 → st C 169 0 0 k = C k := fun k hk => st_f hk
  have hP1 : okP F (st C 169 0 0) P := okP_cfg c0 hPP
  have hm1 : mcf F (st C 169 0 0) P := mcf_same c0 (fun k a b => fk k (by omega)) (st_i (by omega)) (st_i (by omega)) hmc
  have hq1 : mqP F A (st C 169 0 0) p := by
    unfold mqP at *
    rw [fk 181 (by omega), fk 182 (by omega), fk 183 (by omega), fk 184 (by omega), fk 185 (by omega), fk 186 (by omega)]
    exact hq
  have hi1 : pinv F (st C 169 0 0) T A p := by
    unfold pinv nuP opC s0 at *
    rw [nuC_cfg c0, gRow_cfg c0, fk 2 (by omega), fk 24 (by omega), fk 25 (by omega), fk 26 (by omega)]
    exact hi
  have epl : pl (st C 169 0 0) A p s = pl C A p s := by unfold pl s0; rw [fk 24 (by omega)]
  have hpl := pl_lt (s := s) hF hPP hpP hi
  obtain ⟨w1, w2, -, w5⟩ := cm_in hF hpl
  repeat (refine X_n rfl rfl rfl ?_)
  refine X_k rfl rfl rfl rfl (Y_placeAt (s := s) hF hP1 hm1 hpP hq1 hi1 hT (fun w => ?_) (fun w => ?_))
  · dsimp only
    repeat (refine X_n rfl rfl rfl ?_)
    refine X_bf rfl rfl rfl (show ¬ (0 : Int32) ≤ -1 by decide) ?_
    repeat (refine X_n rfl rfl rfl ?_)
    exact X_r rfl rfl rfl rfl (kn w)
  · have ky := ky w
    rw [epl]
    dsimp only
    repeat (refine X_n rfl rfl rfl ?_)
    refine X_bt rfl rfl rfl (nI_pos' (by omega)) ?_
    repeat (refine X_n rfl rfl rfl ?_)
    have hj2 : j = 0 ∨ j = 1 := by omega
    rcases hj2 with ej | ej
    · subst ej
      refine X_bf rfl rfl rfl (show ¬ ¬ nI 0 = 0 from fun h => h rfl) ?_
      repeat (refine X_n rfl rfl rfl ?_)
      refine X_rem rfl (by decide) ?_
      refine X_top (w := nI (pl C A p s % F.1)) ?_ ?_
      · rw [← w1]; exact pk_rem (d := 24) (by omega) (by omega) (by omega)
      · repeat (refine X_n rfl rfl rfl ?_)
        exact X_r rfl rfl rfl rfl ky
    · subst ej
      refine X_bt rfl rfl rfl (show ¬ nI 1 = 0 by decide) ?_
      repeat (refine X_n rfl rfl rfl ?_)
      refine X_div rfl (by decide) ?_
      refine X_top (w := nI (pl C A p s / F.1)) ?_ ?_
      · rw [← w2]; exact pk_div (d := 24) (by omega) (by omega) (by omega)
      · exact X_r rfl rfl rfl rfl ky
/-- how many are in their cells -/
noncomputable def cB (A : Ct) (s : Int32) : Nat → Nat
  | 0 => 0
  | i + 1 => cB A s i + m_if (inB A i s) 1 0
theorem Y_countB_loop (hF : okF F) (hP : okP F C P) (hr : ∀ p, p < P → cqP A C p ∧ pinv F C T A p) (hT : T ≤ 3600) (kk : Q (.inl (some (.int (nI (cB A s P))))) (hp F C J G)) :
    ∀ d i, i + d = P → X y_Flight_countBehind 4 [some (.ref 29), some (.int s), some (.int (nI (cB A s i))), some (.int (nI i))] [] (hp F C J G) Q := by
  have hP60 := hP.1
  intro d
  induction d with
  | zero =>
    intro i hd
    have : i = P := by omega
    subst this
    repeat (refine X_n rfl rfl rfl ?_)
    refine X_bt rfl rfl rfl (show C 23 5 ≤ nI i by rw [hP.2.1]; exact Int32.le_refl _) ?_
    repeat (refine X_n rfl rfl rfl ?_)
    exact X_r rfl rfl rfl rfl kk
  | succ d ih =>
    intro i hd
    have hiP : i < P := by omega
    obtain ⟨hq, hi⟩ := hr i hiP
    have hib := inB_iff (s := s) hi hT
    have ih := ih (i + 1) (by omega)
    rw [cB] at ih
    repeat (refine X_n rfl rfl rfl ?_)
    refine X_bf rfl rfl rfl (show ¬ C 23 5 ≤ nI i by rw [hP.2.1]; exact nI_ge hiP (by omega)) ?_
    repeat (refine X_n rfl rfl rfl ?_)
    refine X_cd rfl rfl rfl rfl (Y_isIn hF (show i < 60 by omega)) ?_
    refine X_z rfl (fun q => ?_) (fun q => ?_)
    · rw [m_if_f (fun g => q (by rw [hq.1, hq.2.1]; exact hib.mpr g))] at ih
      iterate 2 (refine X_n rfl rfl rfl ?_)
      rw [nI_1']
      exact ih
    · rw [m_if_t (hib.mp (by rw [← hq.1, ← hq.2.1]; exact q))] at ih
      iterate 3 (refine X_n rfl rfl rfl ?_)
      rw [nI_1', nI_1']
      exact ih
theorem Y_left {s : Int32} (hF : okF F) (hG : okX G t) (hP : okP F C P) (hb : C 0 5 = 0 ∨ C 0 5 = 1) (hr : C 0 5 = 1 → ∀ p, p < P → cqP A C p ∧ pinv F C T A p) (hT : T ≤ 3600)
    (k7 : ¬ (0 ≤ s ∧ s ≤ 3600) → Q (.inr (194 + G.2.1)) (hp F C J (gx G 7)))
    (k8 : (0 ≤ s ∧ s ≤ 3600) → C 0 5 = 0 → Q (.inr (194 + G.2.1)) (hp F C J (gx G 8)))
    (kr : (0 ≤ s ∧ s ≤ 3600) → C 0 5 = 1 → Q (.inl (some (.int (nI (cB A s P))))) (hp F C J G)) :
    Y y_Esc_left [.ref 0, .int s] (hp F C J G) Q := by
  unfold Y
  repeat (refine X_n rfl rfl rfl ?_)
  refine X_cd rfl rfl rfl rfl Y_isWithin ?_
  refine X_nz rfl (fun q => ?_) (fun q => ?_)
  · repeat (refine X_n rfl rfl rfl ?_)
    rcases hb with e | e
    · refine X_bf rfl rfl rfl (show ¬ ¬ C 0 5 = 0 from fun h => h e) ?_
      exact X_w (x := 0) hG rfl rfl rfl rfl rfl (k8 q e)
    · refine X_bt rfl rfl rfl (show ¬ C 0 5 = 0 from fun h => by rw [e] at h; exact absurd h (by decide)) ?_
      repeat (refine X_n rfl rfl rfl ?_)
      refine X_k rfl rfl rfl rfl (show Y y_Flight_countBehind [.ref 29, .int s] (hp F C J G) _ from ?_)
      unfold Y
      iterate 4 (refine X_n rfl rfl rfl ?_)
      refine Y_countB_loop (A := A) hF hP (hr e) hT ?_ P 0 (by omega)
      dsimp only
      exact X_r rfl rfl rfl rfl (kr q e)
  · exact X_w (x := 0) hG rfl rfl rfl rfl rfl (k7 q)
theorem Y_mleft_no {s : Int32} (h : ¬ (0 ≤ s ∧ s ≤ 3600)) : Yd y_Model_left [.ref 169, .int s] (hp F C J G) (.inl (some (.int 0))) (hp F (st C 169 0 1) J G) := by
  refine Yd_of (fun Q k => ?_)
  unfold Y
  repeat (refine X_n rfl rfl rfl ?_)
  refine X_b rfl rfl rfl (fun q1 => ?_) (fun q1 => ?_)
  · repeat (refine X_n rfl rfl rfl ?_)
    refine X_cd rfl rfl rfl rfl Y_refuses ?_
    refine X_z rfl (fun q => absurd (by decide) q) (fun _ => ?_)
    repeat (refine X_n rfl rfl rfl ?_)
    exact X_r rfl rfl rfl rfl k
  repeat (refine X_n rfl rfl rfl ?_)
  refine X_b rfl rfl rfl (fun q2 => ?_) (fun q2 => ?_)
  · exact absurd ⟨Int32.not_lt.mp q1, q2⟩ h
  · repeat (refine X_n rfl rfl rfl ?_)
    refine X_cd rfl rfl rfl rfl Y_refuses ?_
    refine X_z rfl (fun q => absurd (by decide) q) (fun _ => ?_)
    repeat (refine X_n rfl rfl rfl ?_)
    exact X_r rfl rfl rfl rfl k
theorem Y_mleft_no2 {s : Int32} (hs : 0 ≤ s ∧ s ≤ 3600) (hr : C 169 17 = 0) : Yd y_Model_left [.ref 169, .int s] (hp F C J G) (.inl (some (.int 0))) (hp F (st C 169 0 2) J G) := by
  refine Yd_of (fun Q k => ?_)
  unfold Y
  repeat (refine X_n rfl rfl rfl ?_)
  refine X_bf rfl rfl rfl (Int32.not_lt.mpr hs.1) ?_
  repeat (refine X_n rfl rfl rfl ?_)
  refine X_bt rfl rfl rfl hs.2 ?_
  repeat (refine X_n rfl rfl rfl ?_)
  refine X_bf rfl rfl rfl (show ¬ ¬ C 169 17 = 0 from fun h => h hr) ?_
  repeat (refine X_n rfl rfl rfl ?_)
  refine X_cd rfl rfl rfl rfl Y_refuses ?_
  refine X_z rfl (fun q => absurd (by decide) q) (fun _ => ?_)
  repeat (refine X_n rfl rfl rfl ?_)
  exact X_r rfl rfl rfl rfl k
theorem Y_mleft_loop (hF : okF F) (hP : okP F C P) (hmc : mcf F C P) (hr : ∀ p, p < P → mqP F A C p ∧ pinv F C T A p) (hT : T ≤ 3600) (kk : Q (.inl (some (.int (nI (cB A s P))))) (hp F C J G)) :
    ∀ d i, i + d = P → X y_Model_left 40 [some (.ref 169), some (.int s), some (.int (nI (cB A s i))), some (.int (nI i))] [] (hp F C J G) Q := by
  have hn := hF.n
  have hP60 := hP.1
  intro d
  induction d with
  | zero =>
    intro i hd
    have : i = P := by omega
    subst this
    repeat (refine X_n rfl rfl rfl ?_)
    refine X_bt rfl rfl rfl (show C 169 9 ≤ nI i by rw [hmc.2.1]; exact Int32.le_refl _) ?_
    repeat (refine X_n rfl rfl rfl ?_)
    exact X_r rfl rfl rfl rfl kk
  | succ d ih =>
    intro i hd
    have hiP : i < P := by omega
    obtain ⟨hq, hi⟩ := hr i hiP
    have ih := ih (i + 1) (by omega)
    have hpl := pl_lt (s := s) hF hP hiP hi
    have hc5 := (cm_in hF hpl).2.2.2
    rw [cB] at ih
    repeat (refine X_n rfl rfl rfl ?_)
    refine X_bf rfl rfl rfl (show ¬ C 169 9 ≤ nI i by rw [hmc.2.1]; exact nI_ge hiP (by omega)) ?_
    repeat (refine X_n rfl rfl rfl ?_)
    refine X_k rfl rfl rfl rfl (Y_placeAt (s := s) hF hP hmc hiP hq hi hT (fun w => ?_) (fun w => ?_))
    · rw [m_if_f w] at ih
      dsimp only
      refine X_bt rfl rfl rfl (show (-1 : Int32) < 0 by decide) ?_
      iterate 2 (refine X_n rfl rfl rfl ?_)
      refine X_top (w := nI (cB A s i)) ?_ ?_
      · exact nI_add _ 0
      iterate 3 (refine X_n rfl rfl rfl ?_)
      rw [nI_1']
      exact ih
    · rw [m_if_t w] at ih
      dsimp only
      refine X_bf rfl rfl rfl (nI_pos (by omega)) ?_
      iterate 3 (refine X_n rfl rfl rfl ?_)
      refine X_top (w := nI (cB A s i + 1)) (nI_1' _) ?_
      iterate 3 (refine X_n rfl rfl rfl ?_)
      rw [nI_1']
      exact ih
theorem Y_mleft {s : Int32} (hF : okF F) (hPP : okP F C P) (hmc : mcf F C P) (hs : 0 ≤ s ∧ s ≤ 3600) (hr : C 169 17 = 1) (hq : ∀ p, p < P → mqP F A C p ∧ pinv F C T A p) (hT : T ≤ 3600) : Yd y_Model_left [.ref 169, .int s] (hp F C J G) (.inl (some (.int (nI (cB A s P))))) (hp F (st C 169 0 0) J G) := by
  refine Yd_of (fun Q k => ?_)
  unfold Y
  repeat (refine X_n rfl rfl rfl ?_)
  refine X_bf rfl rfl rfl (Int32.not_lt.mpr hs.1) ?_
  repeat (refine X_n rfl rfl rfl ?_)
  refine X_bt rfl rfl rfl hs.2 ?_
  repeat (refine X_n rfl rfl rfl ?_)
  refine X_bt rfl rfl rfl (show ¬ C 169 17 = 0 from fun h => by rw [hr] at h; exact absurd h (by decide)) ?_
  repeat (refine X_n rfl rfl rfl ?_)
  refine X_cd rfl rfl rfl rfl Y_refuses ?_
  refine X_z rfl (fun _ => ?_) (fun q => absurd q (by decide))
  rw [show st C 169 0 (Int32.ofInt 0) = st C 169 0 0 from rfl]
  have c0 : cfg C (st C 169 0 0) := fun k hk => st_f (by omega)
  have fk : ∀ k, k ≠ 169 → st C 169 0 0 k = C k := fun k hk => st_f hk
  iterate 4 (refine X_n rfl rfl rfl ?_)
  refine Y_mleft_loop (A := A) (T := T) hF (okP_cfg c0 hPP) (mcf_same c0 (fun k a b => fk k (by omega)) (st_i (by omega)) (st_i (by omega)) hmc) (fun p hp => ⟨?_, ?_⟩) hT k P 0 (by omega)
  · have := (hq p hp).1
    unfold mqP at *
    rw [fk 181 (by omega), fk 182 (by omega), fk 183 (by omega), fk 184 (by omega), fk 185 (by omega), fk 186 (by omega)]
    exact this
  · have := (hq p hp).2
    unfold pinv nuP opC s0 at *
    rw [nuC_cfg c0, gRow_cfg c0, fk 2 (by omega), fk 24 (by omega), fk 25 (by omega), fk 26 (by omega)]
    exact this
end
end
section
/-! ways, walk, turns -/
/-- those below i that have p, in their order -/
noncomputable def lst (p : Nat → Prop) : Nat → List Nat
  | 0 => []
  | i + 1 => m_if (p i) (lst p i ++ [i]) (lst p i)
theorem lst_t {p : Nat → Prop} {i : Nat} (h : p i) : lst p (i + 1) = lst p i ++ [i] := m_if_t h
theorem lst_f {p : Nat → Prop} {i : Nat} (h : ¬ p i) : lst p (i + 1) = lst p i := m_if_f h
theorem lst_mem {p : Nat → Prop} : ∀ {i x : Nat}, x ∈ lst p i ↔ x < i ∧ p x := by
  intro i
  induction i with
  | zero => intro x; exact ⟨fun h => (by cases h), fun h => by omega⟩
  | succ i ih =>
    intro x
    by_cases h : p i
    · rw [lst_t h, List.mem_append, ih, List.mem_singleton]
      constructor
      · rintro (h1 | h1)
        · exact ⟨by omega, h1.2⟩
        · subst h1; exact ⟨by omega, h⟩
      · rintro ⟨h1, h2⟩
        by_cases e : x = i
        · exact Or.inr e
        · exact Or.inl ⟨by omega, h2⟩
    · rw [lst_f h, ih]
      constructor
      · exact fun h1 => ⟨by omega, h1.2⟩
      · rintro ⟨h1, h2⟩
        refine ⟨?_, h2⟩
        by_cases e : x = i
        · subst e; exact absurd h2 h
        · omega
theorem lst_pw {p : Nat → Prop} : ∀ {i : Nat}, (lst p i).Pairwise (· < ·) := by
  intro i
  induction i with
  | zero => exact List.Pairwise.nil
  | succ i ih =>
    by_cases h : p i
    · rw [lst_t h, List.pairwise_append]
      refine ⟨ih, List.pairwise_singleton _ _, fun a ha b hb => ?_⟩
      rw [List.mem_singleton] at hb
      subst hb
      exact (lst_mem.mp ha).1
    · rw [lst_f h]; exact ih
theorem lst_len {p : Nat → Prop} : ∀ {i : Nat}, (lst p i).length ≤ i := by
  intro i
  induction i with
  | zero => exact Nat.le_refl 0
  | succ i ih =>
    by_cases h : p i
    · rw [lst_t h, List.length_append, List.length_singleton]; omega
    · rw [lst_f h]; omega
theorem lt_uniq : ∀ (l1 l2 : List Nat), l1.Pairwise (· < ·) → l2.Pairwise (· < ·) → (∀ p, p ∈ l1 ↔ p ∈ l2) → l1 = l2 := by
  intro l1
  induction l1 with
  | nil =>
    intro l2 _ _ h
    cases l2 with
    | nil => rfl
    | cons b t2 => exact absurd ((h b).mpr (List.mem_cons_self ..)) (by simp)
  | cons a t1 ih =>
    intro l2 h1 h2 h
    cases l2 with
    | nil => exact absurd ((h a).mp (List.mem_cons_self ..)) (by simp)
    | cons b t2 =>
      obtain ⟨a1, a2⟩ := List.pairwise_cons.mp h1
      obtain ⟨b1, b2⟩ := List.pairwise_cons.mp h2
      have hab : a = b := by
        rcases List.mem_cons.mp ((h a).mp (List.mem_cons_self ..)) with e | m1
        · exact e
        rcases List.mem_cons.mp ((h b).mpr (List.mem_cons_self ..)) with e | m2
        · exact e.symm
        have := b1 a m1
        have := a1 b m2
        omega
      subst hab
      have n1 : a ∉ t1 := fun m => absurd (a1 a m) (by omega)
      have n2 : a ∉ t2 := fun m => absurd (b1 a m) (by omega)
      rw [ih t2 a2 b2 (fun p => ⟨fun m => by
        rcases List.mem_cons.mp ((h p).mp (List.mem_cons_of_mem _ m)) with e | m'
        · subst e; exact absurd m n1
        · exact m', fun m => by
        rcases List.mem_cons.mp ((h p).mpr (List.mem_cons_of_mem _ m)) with e | m'
        · subst e; exact absurd m n2
        · exact m'⟩)]
section
variable {F : Fx} {C D : Ct} {J : Nat → Int64} {G : Ex} {Q : mE → mH → Prop} {t P e : Nat}
theorem cm_lt (hF : okF F) {a b : Nat} (ha : a < F.1 * F.2.1) (hb : b < F.1 * F.2.1) (h : a < b) : cm F a < cm F b := by
  obtain ⟨⟨f1, f2⟩, -, -⟩ := hF
  unfold cm
  have h1 := Nat.div_add_mod a F.1
  have h2 := Nat.div_add_mod b F.1
  have h3 : a % F.1 < F.1 := Nat.mod_lt _ (by omega)
  have h4 : b % F.1 < F.1 := Nat.mod_lt _ (by omega)
  rcases Nat.lt_trichotomy (a / F.1) (b / F.1) with q | q | q
  · omega
  · rw [q] at h1; omega
  · have := Nat.div_le_div_right (c := F.1) (Nat.le_of_lt h)
    omega
theorem lst_cm (hF : okF F) {p q : Nat → Prop} (h1 : ∀ c, c < F.1 * F.2.1 → (q (cm F c) ↔ p c)) (h2 : ∀ m, m < 576 → q m → inS F m) : lst q 576 = (lst p (F.1 * F.2.1)).map (cm F) := by
  refine lt_uniq _ _ lst_pw ?_ (fun m => ?_)
  · rw [List.pairwise_map]
    exact List.Pairwise.imp_of_mem (fun {a b} ha hb hab => cm_lt hF (lst_mem.mp ha).1 (lst_mem.mp hb).1 hab) lst_pw
  · rw [lst_mem, List.mem_map]
    constructor
    · rintro ⟨hm, hq⟩
      have hs := h2 m hm hq
      refine ⟨mc F m, lst_mem.mpr ⟨mc_lt hF hs, (h1 _ (mc_lt hF hs)).mp (by rw [cm_mc hF hs]; exact hq)⟩, cm_mc hF hs⟩
    · rintro ⟨c, hc, rfl⟩
      have := lst_mem.mp hc
      exact ⟨(cm_in hF this.1).2.2.2, (h1 c this.1).mpr this.2⟩
/-- the row to all exits is found -/
def row0 (F : Fx) (C : Ct) : Prop := ∀ c, c < F.1 * F.2.1 → C 12 c = nuC F C 0 c
def mrow0 (F : Fx) (C : Ct) : Prop := (∀ c, c < F.1 * F.2.1 → C 179 (576 * 8 + cm F c) = nuC F C 0 c) ∧ ∀ m, m < 576 → ¬ inS F m → C 179 (576 * 8 + m) = -1
def hasN (F : Fx) (C : Ct) (c : Nat) : Prop := ¬ nuC F C 0 c = -1
def hasNM (C : Ct) (m : Nat) : Prop := 0 ≤ C 179 (576 * 8 + m)
theorem Y_ways_loop (hF : okF F) (hr : row0 F C) (kk : Q (.inl (some (.int (nI (lst (hasN F C) (F.1 * F.2.1)).length)))) (hp F C J G)) :
    ∀ d i, i + d = F.1 * F.2.1 → X y_Esc_ways 13 [some (.ref 0), some (.ref 12), some (.int (nI (lst (hasN F C) i).length)), some (.int (nI i))] [] (hp F C J G) Q := by
  have hn := hF.n
  intro d
  induction d with
  | zero =>
    intro i hd
    have : i = F.1 * F.2.1 := by omega
    subst this
    repeat (refine X_n rfl rfl rfl ?_)
    refine X_bt rfl rfl rfl (show nI (F.1 * F.2.1) ≤ nI (F.1 * F.2.1) from Int32.le_refl _) ?_
    repeat (refine X_n rfl rfl rfl ?_)
    exact X_r rfl rfl rfl rfl kk
  | succ d ih =>
    intro i hd
    have ih := ih (i + 1) (by omega)
    repeat (refine X_n rfl rfl rfl ?_)
    refine X_bf rfl rfl rfl (show ¬ nI (F.1 * F.2.1) ≤ nI i from nI_ge (by omega) (by omega)) ?_
    repeat (refine X_n rfl rfl rfl ?_)
    refine X_la rfl rfl rfl hF (show i < F.1 * F.2.1 by omega) ?_
    rw [hr i (by omega)]
    repeat (refine X_n rfl rfl rfl ?_)
    refine X_b rfl rfl rfl (fun q => ?_) (fun q => ?_)
    · rw [lst_f (fun h => h q)] at ih
      iterate 2 (refine X_n rfl rfl rfl ?_)
      rw [nI_1']
      exact ih
    · rw [lst_t (show hasN F C i from q), List.length_append, List.length_singleton] at ih
      iterate 3 (refine X_n rfl rfl rfl ?_)
      rw [nI_1', nI_1']
      exact ih
/-- rowTo(-1): the row to all exits -/
theorem Y_row0 {x : Int32} (hF : okF F) (hS : okS F C) (hN : okN F C) (hx : x = -1)
    (kk : ∀ C', sameN C C' → okN F C' → row0 F C' → Q (.inl (some (.ref 12))) (hp F C' J G)) : Y y_Numbers_rowTo [.ref 10, .int x] (hp F C J G) Q := by
  refine Y_rowK (e := 0) hF hS hN (by omega) (by rw [hx]; decide) (fun C' s n h1 _ => kk C' s n (fun c hc => ?_))
  rcases n 0 (by omega) with g | ⟨-, g⟩
  · rw [h1] at g; exact absurd g (by decide)
  · exact nuC_row (r := 0) hF (okS_same s hS) (by omega) g hc
theorem Y_ways (hF : okF F) (hS : okS F C) (hN : okN F C) (kk : ∀ C', sameN C C' → okN F C' → Q (.inl (some (.int (nI (lst (hasN F C) (F.1 * F.2.1)).length)))) (hp F C' J G)) : Y y_Esc_ways [.ref 0] (hp F C J G) Q := by
  unfold Y
  repeat (refine X_n rfl rfl rfl ?_)
  refine X_k rfl rfl rfl rfl (Y_row0 hF hS hN rfl (fun C' s n hr => ?_))
  dsimp only
  iterate 5 (refine X_n rfl rfl rfl ?_)
  have kk := kk C' s n
  have e : hasN F C = hasN F C' := by unfold hasN; rw [nuC_cfg s.cfg]
  rw [e] at kk
  exact Y_ways_loop hF hr kk _ 0 (Nat.zero_add _)
theorem Y_mways_loop (hF : okF F) (kk : Q (.inl (some (.int (nI (lst (hasNM C) 576).length)))) (hp F C J G)) :
    ∀ d i, i + d = 576 → X y_Model_ways 13 [some (.ref 169), some (.int (nI (lst (hasNM C) i).length)), some (.int (nI i))] [] (hp F C J G) Q := by
  intro d
  induction d with
  | zero =>
    intro i hd
    have : i = 576 := by omega
    subst this
    repeat (refine X_n rfl rfl rfl ?_)
    refine X_bt rfl rfl rfl (Int32.le_refl _) ?_
    repeat (refine X_n rfl rfl rfl ?_)
    exact X_r rfl rfl rfl rfl kk
  | succ d ih =>
    intro i hd
    have ih := ih (i + 1) (by omega)
    repeat (refine X_n rfl rfl rfl ?_)
    refine X_bf rfl rfl rfl (show ¬ nI 576 ≤ nI i from nI_ge (by omega) (by omega)) ?_
    repeat (refine X_n rfl rfl rfl ?_)
    refine X_cd rfl rfl rfl rfl (Y_numberOf (w := 8) (c := i) (by omega) (by omega)) ?_
    refine X_b rfl rfl rfl (fun q => ?_) (fun q => ?_)
    · rw [lst_f (fun h => absurd q (Int32.not_lt.mpr h))] at ih
      iterate 1 (refine X_n rfl rfl rfl ?_)
      iterate 1 (refine X_n rfl rfl rfl ?_)
      refine X_top (w := nI (lst (hasNM C) i).length) (nI_add _ 0) ?_
      iterate 3 (refine X_n rfl rfl rfl ?_)
      rw [nI_1']
      exact ih
    · rw [lst_t (show hasNM C i from Int32.not_lt.mp q), List.length_append, List.length_singleton] at ih
      iterate 3 (refine X_n rfl rfl rfl ?_)
      refine X_top (w := nI ((lst (hasNM C) i).length + 1)) (nI_1' _) ?_
      iterate 3 (refine X_n rfl rfl rfl ?_)
      rw [nI_1']
      exact ih
/-- learn, and what follows -/
theorem Y_learnK (hF : okF F) (hS : okS F C) (hg : okG F C) (hrS : rS F C) (hm : okMS F C) (hL : okL F C)
    (kk : ∀ C', sameL C C' → C' 169 14 = 1 → (∀ wh, wh ≤ 8 → rowOkM F C' wh (nuM C' wh)) → mnu F C' → mrow0 F C' → Q (.inl none) (hp F C' J G)) : Y y_Model_learn [.ref 169] (hp F C J G) Q := by
  obtain ⟨n, o, h', q, C', e1, e2, s, e14, hr⟩ := Y_learn (J := J) (G := G) hF hm hL
  subst e1; subst e2
  have c : cfg C C' := fun k hk => s.1 k (by omega) (by omega) (by omega)
  have hr' : rS F C' := by
    unfold rS at *
    rw [s.1 170 (by omega) (by omega) (by omega), s.1 171 (by omega) (by omega) (by omega), s.2 7 (by omega), c 2 (by omega), c 5 (by omega), c 1 (by omega)]
    exact hrS
  have hn := mnu_of hF (okS_cfg c hS) (okG_cfg c hg) hr' hr
  exact ⟨n, _, _, q, kk C' s e14 hr hn ⟨fun c hc => hn 0 (by omega) c hc, fun m hm' ho => num_out (okMS_same s hm) (Nat.le_refl 8) (hr 8 (Nat.le_refl 8)) hm' ho⟩⟩
theorem hasN_eq (hF : okF F) (hS : okS F C) (h : mrow0 F C) : lst (hasNM C) 576 = (lst (hasN F C) (F.1 * F.2.1)).map (cm F) := by
  refine lst_cm hF (fun c hc => ?_) (fun m hm hq => ?_)
  · unfold hasNM hasN
    rw [h.1 c hc]
    exact (nu_sg hF hS (by omega) hc).2
  · refine Classical.byContradiction fun ho => ?_
    unfold hasNM at hq
    rw [h.2 m hm ho] at hq
    exact absurd hq (by decide)
theorem st0_okMS {v : Int32} (h : okMS F C) : okMS F (st C 169 0 v) := by
  unfold okMS opM at *
  rw [st_f (by omega), st_f (by omega)]; exact h
theorem st0_okL {v : Int32} (h : okL F C) : okL F (st C 169 0 v) := by
  unfold okL at *
  rw [st_i (by omega)]
  rcases h with g | ⟨g1, g2⟩
  · exact Or.inl g
  · refine Or.inr ⟨g1, fun wh hw => ?_⟩
    have : nuM (st C 169 0 v) wh = nuM C wh := by unfold nuM; rw [st_f (by omega)]
    rw [this]
    exact rowOkM_eq (st_f (by omega)) (st_f (by omega)) (g2 wh hw)
theorem st0_rS {v : Int32} (h : rS F C) : rS F (st C 169 0 v) := by
  have f : ∀ k, k ≠ 169 → st C 169 0 v k = C k := fun k hk => st_f hk
  unfold rS at *
  rw [f 170 (by omega), f 2 (by omega), f 171 (by omega), f 5 (by omega), f 1 (by omega), st_i (by omega)]; exact h
theorem st0_cfg {v : Int32} : cfg C (st C 169 0 v) := fun k hk => st_f (by omega)
theorem Y_mways (hF : okF F) (hS : okS F C) (hg : okG F C) (hrS : rS F C) (hm : okMS F C) (hL : okL F C)
    (kk : ∀ C', sameL (st C 169 0 0) C' → C' 169 14 = 1 → (∀ wh, wh ≤ 8 → rowOkM F C' wh (nuM C' wh)) → Q (.inl (some (.int (nI (lst (hasN F C) (F.1 * F.2.1)).length)))) (hp F C' J G)) : Y y_Model_ways [.ref 169] (hp F C J G) Q := by
  unfold Y
  repeat (refine X_n rfl rfl rfl ?_)
  refine X_s rfl rfl ?_
  refine X_h (hp_f169_0 rfl) ?_
  repeat (refine X_n rfl rfl rfl ?_)
  refine X_h (H := hp F (st C 169 0 0) J G) rfl ?_
  refine X_k rfl rfl rfl rfl (Y_learnK hF (okS_cfg st0_cfg hS) (okG_cfg st0_cfg hg) (st0_rS hrS) (st0_okMS hm) (st0_okL hL) (fun C' s e14 hr hn h0 => ?_))
  dsimp only
  iterate 4 (refine X_n rfl rfl rfl ?_)
  have c : cfg C C' := fun k hk => by rw [s.1 k (by omega) (by omega) (by omega), st_f (by omega)]
  have kk := kk C' s e14 hr
  have e : hasN F C = hasN F C' := by unfold hasN; rw [nuC_cfg c]
  have e2 := hasN_eq hF (okS_cfg c hS) h0
  have e3 : (lst (hasNM C') 576).length = (lst (hasN F C') (F.1 * F.2.1)).length := by rw [e2, List.length_map]
  rw [e, ← e3] at kk
  exact Y_mways_loop hF kk 576 0 (by omega)
end
end
section
/-! walk, turns -/
/-- a cell beside, with a lesser number -/
def lsC (F : Fx) (C : Ct) (c w : Nat) : Prop := ∃ b, nbC C c w = some b ∧ ¬ nuC F C 0 b = -1 ∧ nuC F C 0 b < nuC F C 0 c
noncomputable def lsN (F : Fx) (C : Ct) (c : Nat) : Nat → Nat
  | 0 => 0
  | w + 1 => lsN F C c w + m_if (lsC F C c w) 1 0
def isT (F : Fx) (C : Ct) (c : Nat) : Prop := 2 ≤ lsN F C c 4
section
variable {F : Fx} {C D : Ct} {J : Nat → Int64} {G : Ex} {Q : mE → mH → Prop} {t P e c : Nat}
theorem lsN_le {w : Nat} : lsN F C c w ≤ w := by
  induction w with
  | zero => exact Nat.le_refl 0
  | succ w ih =>
    rw [lsN]
    by_cases h : lsC F C c w
    · rw [m_if_t h]; omega
    · rw [m_if_f h]; omega
theorem Y_isTurn_loop (hF : okF F) (hB : okB F C) (hr : row0 F C) (hc : c < F.1 * F.2.1) (kk : ∀ v, v = bI (decide (2 ≤ lsN F C c 4)) → Q (.inl (some (.int v))) (hp F C J G)) :
    ∀ d w x5, w + d = 4 → X y_Signposts_isTurn 5 [some (.ref 164), some (.int (nI c)), some (.ref 12), some (.int (nI (lsN F C c w))), some (.int (nI w)), x5] [] (hp F C J G) Q := by
  have hn := hF.n
  intro d
  induction d with
  | zero =>
    intro w x5 hd
    have : w = 4 := by omega
    subst this
    have hl := lsN_le (F := F) (C := C) (c := c) (w := 4)
    repeat (refine X_n rfl rfl rfl ?_)
    refine X_bt rfl rfl rfl (Int32.le_refl _) ?_
    repeat (refine X_n rfl rfl rfl ?_)
    refine X_b rfl rfl rfl (fun q => ?_) (fun q => ?_)
    · have q : lsN F C c 4 < 2 := (nI_ltI (by omega) (by omega)).mp q
      have kk := kk 0 (by rw [decide_eq_false (by omega)]; rfl)
      repeat (refine X_n rfl rfl rfl ?_)
      exact X_r rfl rfl rfl rfl kk
    · have q : ¬ lsN F C c 4 < 2 := fun h => q (nI_lt h (by omega))
      have kk := kk 1 (by rw [decide_eq_true (by omega)]; rfl)
      repeat (refine X_n rfl rfl rfl ?_)
      exact X_r rfl rfl rfl rfl kk
  | succ d ih =>
    intro w x5 hd
    have no : ¬ lsC F C c w → ∀ x5, X y_Signposts_isTurn 50 [some (.ref 164), some (.int (nI c)), some (.ref 12), some (.int (nI (lsN F C c w))), some (.int (nI w)), x5] [] (hp F C J G) Q := by
      intro h x5
      have ih := ih (w + 1) x5 (by omega)
      rw [lsN, m_if_f h] at ih
      iterate 2 (refine X_n rfl rfl rfl ?_)
      rw [nI_1']
      exact ih
    repeat (refine X_n rfl rfl rfl ?_)
    refine X_bf rfl rfl rfl (show ¬ nI 4 ≤ nI w from nI_ge (by omega) (by omega)) ?_
    repeat (refine X_n rfl rfl rfl ?_)
    refine X_cd rfl rfl rfl rfl (Y_openBeside hF hB hc (show w < 4 by omega)) ?_
    rcases opB_cases hn hB hc (show w < 4 by omega) with ⟨e1, e2⟩ | ⟨b, hb, e1, e2, -, -⟩
    · rw [e1]
      repeat (refine X_n rfl rfl rfl ?_)
      refine X_bt rfl rfl rfl rfl ?_
      exact no (fun ⟨b, h, _⟩ => by rw [e2] at h; cases h) _
    · rw [e1]
      have hls : lsC F C c w → ¬ nuC F C 0 b = -1 ∧ nuC F C 0 b < nuC F C 0 c := fun ⟨b', h, g⟩ => by rw [e2] at h; cases h; exact g
      repeat (refine X_n rfl rfl rfl ?_)
      refine X_bf rfl rfl rfl (nI_nm1 (by omega)) ?_
      repeat (refine X_n rfl rfl rfl ?_)
      refine X_la rfl rfl rfl hF hb ?_
      rw [hr b hb]
      repeat (refine X_n rfl rfl rfl ?_)
      refine X_b rfl rfl rfl (fun q1 => ?_) (fun q1 => ?_)
      · exact no (fun h => (hls h).1 q1) _
      repeat (refine X_n rfl rfl rfl ?_)
      refine X_la rfl rfl rfl hF hb ?_
      rw [hr b hb]
      repeat (refine X_n rfl rfl rfl ?_)
      refine X_la rfl rfl rfl hF hc ?_
      rw [hr c hc]
      refine X_b rfl rfl rfl (fun q2 => ?_) (fun q2 => ?_)
      · exact no (fun h => Int32.not_lt.mpr q2 (hls h).2) _
      have ih := ih (w + 1) (some (.int (nI b))) (by omega)
      rw [lsN, m_if_t ⟨b, e2, q1, Int32.not_le.mp q2⟩] at ih
      iterate 3 (refine X_n rfl rfl rfl ?_)
      rw [nI_1', nI_1']
      exact ih
theorem Y_isTurn (hF : okF F) (hB : okB F C) (hr : row0 F C) (hc : c < F.1 * F.2.1) : Yd y_Signposts_isTurn [.ref 164, .int (nI c), .ref 12] (hp F C J G) (.inl (some (.int (bI (decide (2 ≤ lsN F C c 4)))))) (hp F C J G) := by
  refine Yd_of (fun Q k => ?_)
  unfold Y
  iterate 4 (refine X_n rfl rfl rfl ?_)
  exact Y_isTurn_loop hF hB hr hc (fun v e => by rw [e]; exact k) 4 0 none (by omega)
theorem Y_cntT_loop (hF : okF F) (hB : okB F C) (hr : row0 F C) (kk : Q (.inl (some (.int (nI (lst (isT F C) (F.1 * F.2.1)).length)))) (hp F C J G)) :
    ∀ d i, i + d = F.1 * F.2.1 → X y_Signposts_countTurns 4 [some (.ref 164), some (.ref 12), some (.int (nI (lst (isT F C) i).length)), some (.int (nI i))] [] (hp F C J G) Q := by
  have hn := hF.n
  intro d
  induction d with
  | zero =>
    intro i hd
    have : i = F.1 * F.2.1 := by omega
    subst this
    repeat (refine X_n rfl rfl rfl ?_)
    refine X_bt rfl rfl rfl (show nI (F.1 * F.2.1) ≤ nI (F.1 * F.2.1) from Int32.le_refl _) ?_
    repeat (refine X_n rfl rfl rfl ?_)
    exact X_r rfl rfl rfl rfl kk
  | succ d ih =>
    intro i hd
    have ih := ih (i + 1) (by omega)
    repeat (refine X_n rfl rfl rfl ?_)
    refine X_bf rfl rfl rfl (show ¬ nI (F.1 * F.2.1) ≤ nI i from nI_ge (by omega) (by omega)) ?_
    repeat (refine X_n rfl rfl rfl ?_)
    refine X_cd rfl rfl rfl rfl (Y_isTurn hF hB hr (show i < F.1 * F.2.1 by omega)) ?_
    refine X_z rfl (fun q => ?_) (fun q => ?_)
    · rw [lst_f (show ¬ isT F C i from q)] at ih
      iterate 2 (refine X_n rfl rfl rfl ?_)
      rw [nI_1']
      exact ih
    · rw [lst_t (show isT F C i from q), List.length_append, List.length_singleton] at ih
      iterate 3 (refine X_n rfl rfl rfl ?_)
      rw [nI_1', nI_1']
      exact ih
theorem isT_cfg (h : cfg C D) : isT F D = isT F C := by
  have e1 : ∀ c w, lsC F D c w = lsC F C c w := fun c w => by unfold lsC; rw [nuC_cfg h]; simp only [nbC_cfg h]
  have e2 : ∀ c w, lsN F D c w = lsN F C c w := by
    intro c w
    induction w with
    | zero => rfl
    | succ w ih => rw [lsN, lsN, ih, e1]
  funext c
  unfold isT
  rw [e2]
theorem Y_turns (hF : okF F) (hS : okS F C) (hN : okN F C) (kk : ∀ C', sameN C C' → okN F C' → Q (.inl (some (.int (nI (lst (isT F C) (F.1 * F.2.1)).length)))) (hp F C' J G)) : Y y_Esc_turns [.ref 0] (hp F C J G) Q := by
  unfold Y
  repeat (refine X_n rfl rfl rfl ?_)
  refine X_k rfl rfl rfl rfl (Y_row0 hF hS hN rfl (fun C' s n hr => ?_))
  dsimp only
  refine X_k rfl rfl rfl rfl (show Y y_Signposts_countTurns [.ref 164, .ref 12] (hp F C' J G) _ from ?_)
  have kk := kk C' s n
  rw [← isT_cfg s.cfg] at kk
  unfold Y
  iterate 4 (refine X_n rfl rfl rfl ?_)
  refine Y_cntT_loop hF (okS_same s hS).1 hr ?_ _ 0 (Nat.zero_add _)
  dsimp only
  exact X_r rfl rfl rfl rfl kk
/-- the reference: a cell m, whatever it is -/
def lsM (F : Fx) (C : Ct) (m w : Nat) : Prop := ∃ b, bsN F m w = some b ∧ 0 ≤ C 179 (576 * 8 + b) ∧ C 179 (576 * 8 + b) < C 179 (576 * 8 + m)
noncomputable def lsNM (F : Fx) (C : Ct) (m : Nat) : Nat → Nat
  | 0 => 0
  | w + 1 => lsNM F C m w + m_if (lsM F C m w) 1 0
def isTM (F : Fx) (C : Ct) (m : Nat) : Prop := 0 < C 179 (576 * 8 + m) ∧ 2 ≤ lsNM F C m 4
theorem lsNM_le {m w : Nat} : lsNM F C m w ≤ w := by
  induction w with
  | zero => exact Nat.le_refl 0
  | succ w ih =>
    rw [lsNM]
    by_cases h : lsM F C m w
    · rw [m_if_t h]; omega
    · rw [m_if_f h]; omega
theorem Y_misTurn_loop {m : Nat} (hF : okF F) (hm : m < 576) (kt : isTM F C m → Q (.inl (some (.int 1))) (hp F C J G)) (kf : ¬ isTM F C m → Q (.inl (some (.int 0))) (hp F C J G)) :
    ∀ d w x5, w + d = 4 → X y_Model_isTurn 13 [some (.ref 169), some (.int (nI m)), some (.int (C 179 (576 * 8 + m))), some (.int (nI (lsNM F C m w))), some (.int (nI w)), x5] [] (hp F C J G) Q := by
  intro d
  induction d with
  | zero =>
    intro w x5 hd
    have : w = 4 := by omega
    subst this
    have hl := lsNM_le (F := F) (C := C) (m := m) (w := 4)
    repeat (refine X_n rfl rfl rfl ?_)
    refine X_bt rfl rfl rfl (Int32.le_refl _) ?_
    repeat (refine X_n rfl rfl rfl ?_)
    refine X_b rfl rfl rfl (fun q1 => ?_) (fun q1 => ?_)
    · repeat (refine X_n rfl rfl rfl ?_)
      exact X_r rfl rfl rfl rfl (kf (fun h => i32_irr _ (Int32.lt_of_lt_of_le h.1 q1)))
    · have q1 := Int32.not_le.mp q1
      repeat (refine X_n rfl rfl rfl ?_)
      refine X_b rfl rfl rfl (fun q => ?_) (fun q => ?_)
      · have q : lsNM F C m 4 ≤ 1 := (nI_leI (by omega) (by omega)).mp q
        repeat (refine X_n rfl rfl rfl ?_)
        exact X_r rfl rfl rfl rfl (kf (fun h => by have := h.2; omega))
      · have q : ¬ lsNM F C m 4 ≤ 1 := fun h => q (nI_le h (by omega))
        repeat (refine X_n rfl rfl rfl ?_)
        exact X_r rfl rfl rfl rfl (kt ⟨q1, by omega⟩)
  | succ d ih =>
    intro w x5 hd
    have no : ¬ lsM F C m w → ∀ x5, X y_Model_isTurn 61 [some (.ref 169), some (.int (nI m)), some (.int (C 179 (576 * 8 + m))), some (.int (nI (lsNM F C m w))), some (.int (nI w)), x5] [.int (nI (lsNM F C m w))] (hp F C J G) Q := by
      intro h x5
      have ih := ih (w + 1) x5 (by omega)
      rw [lsNM, m_if_f h] at ih
      iterate 1 (refine X_n rfl rfl rfl ?_)
      iterate 1 (refine X_n rfl rfl rfl ?_)
      refine X_top (w := nI (lsNM F C m w)) (nI_add _ 0) ?_
      iterate 3 (refine X_n rfl rfl rfl ?_)
      rw [nI_1']
      exact ih
    repeat (refine X_n rfl rfl rfl ?_)
    refine X_bf rfl rfl rfl (show ¬ nI 4 ≤ nI w from nI_ge (by omega) (by omega)) ?_
    repeat (refine X_n rfl rfl rfl ?_)
    refine X_cd rfl rfl rfl rfl (Y_beside (c := m) (w := w) (by omega) (by omega)) ?_
    rw [bsI_eq hF hm (show w < 4 by omega)]
    cases hbs : bsN F m w with
    | none =>
      dsimp only
      repeat (refine X_n rfl rfl rfl ?_)
      refine X_bt rfl rfl rfl (show (-1 : Int32) < 0 by decide) ?_
      exact no (fun ⟨b, h, _⟩ => by rw [hbs] at h; cases h) _
    | some b =>
      dsimp only
      obtain ⟨hbs', hb5⟩ := bsN_in hF hbs
      have hls : lsM F C m w → 0 ≤ C 179 (576 * 8 + b) ∧ C 179 (576 * 8 + b) < C 179 (576 * 8 + m) := fun ⟨b', h, g⟩ => by rw [hbs] at h; cases h; exact g
      repeat (refine X_n rfl rfl rfl ?_)
      refine X_bf rfl rfl rfl (nI_pos (by omega)) ?_
      repeat (refine X_n rfl rfl rfl ?_)
      refine X_cd rfl rfl rfl rfl (Y_numberOf (w := 8) (c := b) (by omega) hb5) ?_
      refine X_b rfl rfl rfl (fun q1 => ?_) (fun q1 => ?_)
      · exact no (fun h => Int32.not_lt.mpr (hls h).1 q1) _
      repeat (refine X_n rfl rfl rfl ?_)
      refine X_cd rfl rfl rfl rfl (Y_numberOf (w := 8) (c := b) (by omega) hb5) ?_
      repeat (refine X_n rfl rfl rfl ?_)
      refine X_b rfl rfl rfl (fun q2 => ?_) (fun q2 => ?_)
      · exact no (fun h => Int32.not_lt.mpr q2 (hls h).2) _
      have ih := ih (w + 1) (some (.int (nI b))) (by omega)
      rw [lsNM, m_if_t ⟨b, hbs, Int32.not_lt.mp q1, Int32.not_le.mp q2⟩] at ih
      iterate 3 (refine X_n rfl rfl rfl ?_)
      refine X_top (w := nI (lsNM F C m w + 1)) (nI_1' _) ?_
      iterate 3 (refine X_n rfl rfl rfl ?_)
      rw [nI_1']
      exact ih
theorem Y_misTurn {m : Nat} (hF : okF F) (hm : m < 576) (kt : isTM F C m → Q (.inl (some (.int 1))) (hp F C J G)) (kf : ¬ isTM F C m → Q (.inl (some (.int 0))) (hp F C J G)) : Y y_Model_isTurn [.ref 169, .int (nI m)] (hp F C J G) Q := by
  unfold Y
  repeat (refine X_n rfl rfl rfl ?_)
  refine X_cd rfl rfl rfl rfl (Y_numberOf (w := 8) (c := m) (by omega) hm) ?_
  iterate 5 (refine X_n rfl rfl rfl ?_)
  exact Y_misTurn_loop hF hm kt kf 4 0 none (by omega)
theorem isT_eq (hF : okF F) (hS : okS F C) (hg : okG F C) (hr : rS F C) (h : mrow0 F C) : lst (isTM F C) 576 = (lst (isT F C) (F.1 * F.2.1)).map (cm F) := by
  have hn := hF.n
  refine lst_cm hF (fun c hc => ?_) (fun m hm hq => ?_)
  · have hl : ∀ w, w < 4 → (lsM F C (cm F c) w ↔ lsC F C c w) := by
      intro w hw
      have hiso := nb_iso hF hg hr hc hw
      rw [nbM_bs] at hiso
      unfold lsM lsC
      cases hbs : bsN F (cm F c) w with
      | none =>
        rw [hbs] at hiso
        rw [hiso]
        exact ⟨fun ⟨b, h, _⟩ => (by cases h), fun ⟨b, h, _⟩ => (by cases h)⟩
      | some m =>
        rw [hbs] at hiso
        dsimp only at hiso
        obtain ⟨hms, hm5⟩ := bsN_in hF hbs
        have hb := mc_lt hF hms
        have ecm := cm_mc hF hms
        generalize mc F m = b at *
        subst ecm
        have hwall := (hr.1 b hb).1
        have hsg := nu_sg hF hS (r := 0) (by omega) hb
        rw [hwall] at hiso
        by_cases w1 : C 2 b = 1
        · rw [if_pos w1, if_neg (by decide)] at hiso
          rw [hiso]
          refine ⟨fun ⟨b', h', g1, g2⟩ => ?_, fun ⟨b', h', _⟩ => (by cases h')⟩
          cases h'
          rw [h.1 b hb] at g1
          have g1 := hsg.2.mp g1
          have := (nu_no hF hS (r := 0) (by omega) hb).mpr (fun k hk => by
            cases k with
            | zero =>
              obtain ⟨x, -, -, e6, -⟩ := hk.2
              obtain ⟨-, -, X8, hX, h11, hE, hE2⟩ := hS
              rcases hE2 b hb with g | ⟨x', -, -, -, g⟩
              · rcases hE x (by
                  obtain ⟨x2, a1, a2, a3, -⟩ := hk.2
                  sorry) with g3 | ⟨c3, d1, d2, d3, d4⟩
                · sorry
                · sorry
              · rw [w1] at g; exact absurd g (by decide)
            | succ k => sorry)
          exact absurd this g1
        · rw [if_neg w1, if_pos rfl] at hiso
          have hnb : nbC C c w = some b := by rw [hiso]; show some (mc F (cm F b)) = some b; rw [mc_cm hF hb]
          rw [hnb]
          refine ⟨fun ⟨b', h', g1, g2⟩ => ?_, fun ⟨b', h', g1, g2⟩ => ?_⟩
          · cases h'
            rw [h.1 b hb] at g1 g2
            rw [h.1 c hc] at g2
            exact ⟨b, rfl, hsg.2.mp g1, g2⟩
          · cases h'
            refine ⟨cm F b, rfl, ?_, ?_⟩
            · rw [h.1 b hb]; exact hsg.2.mpr g1
            · rw [h.1 b hb, h.1 c hc]; exact g2
    sorry
  · refine Classical.byContradiction fun ho => ?_
    have := hq.1
    rw [h.2 m hm ho] at this
    exact absurd this (by decide)
end
end
