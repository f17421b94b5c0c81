-- ===== PART A: goes FIRST, ahead of the names: the tables' words, and 'selects' of the private methods out of them =====
/-- a private method of a class that the tables say can be made, by its rows of tables_1 -/
def lw_okq (q : MethodName × Nat) : Prop := (q.1.cls ≠ "java/lang/invoke/MethodHandle" ∧ q.1.cls ≠ "java/lang/invoke/VarHandle") ∧ Cond.instantiable q.1.cls q.2 ∈ tables_1 ∧ Cond.privateMethod q.1 ∈ tables_1 ∧ Cond.instanceMethod q.1 ∈ tables_1
theorem lw_p0 : lw_okq (⟨"TrimmedMachine", "addExpression", "(IIIIII)I"⟩, 2) := ⟨⟨by decide +kernel, by decide +kernel⟩, List.mem_of_getElem? (i := 19) (by decide +kernel), List.mem_of_getElem? (i := 185) (by decide +kernel), List.mem_of_getElem? (i := 186) (by decide +kernel)⟩
theorem lw_p1 : lw_okq (⟨"java/lang/Throwable", "fillInStackTrace", "(I)Ljava/lang/Throwable;"⟩, 6) := ⟨⟨by decide +kernel, by decide +kernel⟩, List.mem_of_getElem? (i := 228) (by decide +kernel), List.mem_of_getElem? (i := 226) (by decide +kernel), List.mem_of_getElem? (i := 227) (by decide +kernel)⟩
theorem lw_p2 : lw_okq (⟨"TrimmedMachine", "requireVariable", "(I)V"⟩, 2) := ⟨⟨by decide +kernel, by decide +kernel⟩, List.mem_of_getElem? (i := 19) (by decide +kernel), List.mem_of_getElem? (i := 266) (by decide +kernel), List.mem_of_getElem? (i := 267) (by decide +kernel)⟩
theorem lw_p3 : lw_okq (⟨"TrimmedMachine", "heightAbove", "(I)I"⟩, 2) := ⟨⟨by decide +kernel, by decide +kernel⟩, List.mem_of_getElem? (i := 19) (by decide +kernel), List.mem_of_getElem? (i := 293) (by decide +kernel), List.mem_of_getElem? (i := 294) (by decide +kernel)⟩
theorem lw_p4 : lw_okq (⟨"TrimmedMachine", "requireExpression", "(I)V"⟩, 2) := ⟨⟨by decide +kernel, by decide +kernel⟩, List.mem_of_getElem? (i := 19) (by decide +kernel), List.mem_of_getElem? (i := 297) (by decide +kernel), List.mem_of_getElem? (i := 298) (by decide +kernel)⟩
theorem lw_p5 : lw_okq (⟨"TrimmedMachine$Run", "start", "(II)V"⟩, 15) := ⟨⟨by decide +kernel, by decide +kernel⟩, List.mem_of_getElem? (i := 67) (by decide +kernel), List.mem_of_getElem? (i := 343) (by decide +kernel), List.mem_of_getElem? (i := 344) (by decide +kernel)⟩
theorem lw_p6 : lw_okq (⟨"TrimmedMachine$Rows", "trim", "(II)V"⟩, 2) := ⟨⟨by decide +kernel, by decide +kernel⟩, List.mem_of_getElem? (i := 73) (by decide +kernel), List.mem_of_getElem? (i := 347) (by decide +kernel), List.mem_of_getElem? (i := 348) (by decide +kernel)⟩
theorem lw_p7 : lw_okq (⟨"TrimmedMachine$Run", "evaluateTrimmed", "(I)V"⟩, 15) := ⟨⟨by decide +kernel, by decide +kernel⟩, List.mem_of_getElem? (i := 67) (by decide +kernel), List.mem_of_getElem? (i := 351) (by decide +kernel), List.mem_of_getElem? (i := 352) (by decide +kernel)⟩
theorem lw_p8 : lw_okq (⟨"TrimmedMachine$Run", "freeIn", "(I)I"⟩, 15) := ⟨⟨by decide +kernel, by decide +kernel⟩, List.mem_of_getElem? (i := 67) (by decide +kernel), List.mem_of_getElem? (i := 355) (by decide +kernel), List.mem_of_getElem? (i := 356) (by decide +kernel)⟩
theorem lw_p9 : lw_okq (⟨"TrimmedMachine$Run", "measure", "()V"⟩, 15) := ⟨⟨by decide +kernel, by decide +kernel⟩, List.mem_of_getElem? (i := 67) (by decide +kernel), List.mem_of_getElem? (i := 359) (by decide +kernel), List.mem_of_getElem? (i := 360) (by decide +kernel)⟩
theorem lw_p10 : lw_okq (⟨"TrimmedMachine$Closures", "forgetLiving", "()V"⟩, 4) := ⟨⟨by decide +kernel, by decide +kernel⟩, List.mem_of_getElem? (i := 88) (by decide +kernel), List.mem_of_getElem? (i := 363) (by decide +kernel), List.mem_of_getElem? (i := 364) (by decide +kernel)⟩
theorem lw_p11 : lw_okq (⟨"TrimmedMachine$Run", "lookThrough", "(I)I"⟩, 15) := ⟨⟨by decide +kernel, by decide +kernel⟩, List.mem_of_getElem? (i := 67) (by decide +kernel), List.mem_of_getElem? (i := 367) (by decide +kernel), List.mem_of_getElem? (i := 368) (by decide +kernel)⟩
theorem lw_p12 : lw_okq (⟨"TrimmedMachine$Rows", "gives", "(II)Z"⟩, 2) := ⟨⟨by decide +kernel, by decide +kernel⟩, List.mem_of_getElem? (i := 73) (by decide +kernel), List.mem_of_getElem? (i := 371) (by decide +kernel), List.mem_of_getElem? (i := 372) (by decide +kernel)⟩
theorem lw_p13 : lw_okq (⟨"TrimmedMachine$Rows", "get", "(II)J"⟩, 2) := ⟨⟨by decide +kernel, by decide +kernel⟩, List.mem_of_getElem? (i := 73) (by decide +kernel), List.mem_of_getElem? (i := 375) (by decide +kernel), List.mem_of_getElem? (i := 376) (by decide +kernel)⟩
theorem lw_p14 : lw_okq (⟨"TrimmedMachine$Closures", "noteLiving", "(I)V"⟩, 4) := ⟨⟨by decide +kernel, by decide +kernel⟩, List.mem_of_getElem? (i := 88) (by decide +kernel), List.mem_of_getElem? (i := 386) (by decide +kernel), List.mem_of_getElem? (i := 387) (by decide +kernel)⟩
theorem lw_p15 : lw_okq (⟨"TrimmedMachine$Run", "step", "()V"⟩, 15) := ⟨⟨by decide +kernel, by decide +kernel⟩, List.mem_of_getElem? (i := 67) (by decide +kernel), List.mem_of_getElem? (i := 412) (by decide +kernel), List.mem_of_getElem? (i := 413) (by decide +kernel)⟩
def lw_privs_1 : List (MethodName × Nat) := [(⟨"TrimmedMachine", "addExpression", "(IIIIII)I"⟩, 2), (⟨"java/lang/Throwable", "fillInStackTrace", "(I)Ljava/lang/Throwable;"⟩, 6), (⟨"TrimmedMachine", "requireVariable", "(I)V"⟩, 2), (⟨"TrimmedMachine", "heightAbove", "(I)I"⟩, 2), (⟨"TrimmedMachine", "requireExpression", "(I)V"⟩, 2), (⟨"TrimmedMachine$Run", "start", "(II)V"⟩, 15), (⟨"TrimmedMachine$Rows", "trim", "(II)V"⟩, 2), (⟨"TrimmedMachine$Run", "evaluateTrimmed", "(I)V"⟩, 15), (⟨"TrimmedMachine$Run", "freeIn", "(I)I"⟩, 15), (⟨"TrimmedMachine$Run", "measure", "()V"⟩, 15), (⟨"TrimmedMachine$Closures", "forgetLiving", "()V"⟩, 4), (⟨"TrimmedMachine$Run", "lookThrough", "(I)I"⟩, 15), (⟨"TrimmedMachine$Rows", "gives", "(II)Z"⟩, 2), (⟨"TrimmedMachine$Rows", "get", "(II)J"⟩, 2), (⟨"TrimmedMachine$Closures", "noteLiving", "(I)V"⟩, 4), (⟨"TrimmedMachine$Run", "step", "()V"⟩, 15)]
theorem lw_r1 : ∀ q ∈ lw_privs_1, lw_okq q := List.forall_mem_cons.mpr ⟨lw_p0, List.forall_mem_cons.mpr ⟨lw_p1, List.forall_mem_cons.mpr ⟨lw_p2, List.forall_mem_cons.mpr ⟨lw_p3, List.forall_mem_cons.mpr ⟨lw_p4, List.forall_mem_cons.mpr ⟨lw_p5, List.forall_mem_cons.mpr ⟨lw_p6, List.forall_mem_cons.mpr ⟨lw_p7, List.forall_mem_cons.mpr ⟨lw_p8, List.forall_mem_cons.mpr ⟨lw_p9, List.forall_mem_cons.mpr ⟨lw_p10, List.forall_mem_cons.mpr ⟨lw_p11, List.forall_mem_cons.mpr ⟨lw_p12, List.forall_mem_cons.mpr ⟨lw_p13, List.forall_mem_cons.mpr ⟨lw_p14, List.forall_mem_cons.mpr ⟨lw_p15, fun _ h => absurd h List.not_mem_nil⟩⟩⟩⟩⟩⟩⟩⟩⟩⟩⟩⟩⟩⟩⟩⟩
theorem lw_p16 : lw_okq (⟨"TrimmedMachine$Run", "evaluate", "()V"⟩, 15) := ⟨⟨by decide +kernel, by decide +kernel⟩, List.mem_of_getElem? (i := 67) (by decide +kernel), List.mem_of_getElem? (i := 416) (by decide +kernel), List.mem_of_getElem? (i := 417) (by decide +kernel)⟩
theorem lw_p17 : lw_okq (⟨"TrimmedMachine$Run", "returnValue", "(J)V"⟩, 15) := ⟨⟨by decide +kernel, by decide +kernel⟩, List.mem_of_getElem? (i := 67) (by decide +kernel), List.mem_of_getElem? (i := 420) (by decide +kernel), List.mem_of_getElem? (i := 421) (by decide +kernel)⟩
theorem lw_p18 : lw_okq (⟨"TrimmedMachine$Rows", "setSingle", "(IJ)V"⟩, 2) := ⟨⟨by decide +kernel, by decide +kernel⟩, List.mem_of_getElem? (i := 73) (by decide +kernel), List.mem_of_getElem? (i := 424) (by decide +kernel), List.mem_of_getElem? (i := 425) (by decide +kernel)⟩
theorem lw_p19 : lw_okq (⟨"TrimmedMachine$Rows", "give", "(IIJ)V"⟩, 2) := ⟨⟨by decide +kernel, by decide +kernel⟩, List.mem_of_getElem? (i := 73) (by decide +kernel), List.mem_of_getElem? (i := 428) (by decide +kernel), List.mem_of_getElem? (i := 429) (by decide +kernel)⟩
theorem lw_p20 : lw_okq (⟨"TrimmedMachine$Run", "evaluateVariable", "(I)V"⟩, 15) := ⟨⟨by decide +kernel, by decide +kernel⟩, List.mem_of_getElem? (i := 67) (by decide +kernel), List.mem_of_getElem? (i := 432) (by decide +kernel), List.mem_of_getElem? (i := 433) (by decide +kernel)⟩
theorem lw_p21 : lw_okq (⟨"TrimmedMachine$Run", "evaluateFunction", "(I)V"⟩, 15) := ⟨⟨by decide +kernel, by decide +kernel⟩, List.mem_of_getElem? (i := 67) (by decide +kernel), List.mem_of_getElem? (i := 452) (by decide +kernel), List.mem_of_getElem? (i := 453) (by decide +kernel)⟩
theorem lw_p22 : lw_okq (⟨"TrimmedMachine$Closures", "unusedSlot", "()I"⟩, 4) := ⟨⟨by decide +kernel, by decide +kernel⟩, List.mem_of_getElem? (i := 88) (by decide +kernel), List.mem_of_getElem? (i := 456) (by decide +kernel), List.mem_of_getElem? (i := 457) (by decide +kernel)⟩
theorem lw_p23 : lw_okq (⟨"TrimmedMachine$Rows", "copyTrimmed", "(III)V"⟩, 2) := ⟨⟨by decide +kernel, by decide +kernel⟩, List.mem_of_getElem? (i := 73) (by decide +kernel), List.mem_of_getElem? (i := 463) (by decide +kernel), List.mem_of_getElem? (i := 464) (by decide +kernel)⟩
theorem lw_p24 : lw_okq (⟨"TrimmedMachine$Rows", "copy", "(II)V"⟩, 2) := ⟨⟨by decide +kernel, by decide +kernel⟩, List.mem_of_getElem? (i := 73) (by decide +kernel), List.mem_of_getElem? (i := 467) (by decide +kernel), List.mem_of_getElem? (i := 468) (by decide +kernel)⟩
theorem lw_p25 : lw_okq (⟨"TrimmedMachine$Run", "evaluateFirst", "(III)V"⟩, 15) := ⟨⟨by decide +kernel, by decide +kernel⟩, List.mem_of_getElem? (i := 67) (by decide +kernel), List.mem_of_getElem? (i := 478) (by decide +kernel), List.mem_of_getElem? (i := 479) (by decide +kernel)⟩
theorem lw_p26 : lw_okq (⟨"TrimmedMachine$Run", "returnToFrame", "()V"⟩, 15) := ⟨⟨by decide +kernel, by decide +kernel⟩, List.mem_of_getElem? (i := 67) (by decide +kernel), List.mem_of_getElem? (i := 483) (by decide +kernel), List.mem_of_getElem? (i := 484) (by decide +kernel)⟩
theorem lw_p27 : lw_okq (⟨"TrimmedMachine$Run", "evaluateSecond", "(II)V"⟩, 15) := ⟨⟨by decide +kernel, by decide +kernel⟩, List.mem_of_getElem? (i := 67) (by decide +kernel), List.mem_of_getElem? (i := 487) (by decide +kernel), List.mem_of_getElem? (i := 488) (by decide +kernel)⟩
theorem lw_p28 : lw_okq (⟨"TrimmedMachine$Rows", "single", "(I)J"⟩, 2) := ⟨⟨by decide +kernel, by decide +kernel⟩, List.mem_of_getElem? (i := 73) (by decide +kernel), List.mem_of_getElem? (i := 491) (by decide +kernel), List.mem_of_getElem? (i := 492) (by decide +kernel)⟩
theorem lw_p29 : lw_okq (⟨"TrimmedMachine$Run", "operate", "(I)V"⟩, 15) := ⟨⟨by decide +kernel, by decide +kernel⟩, List.mem_of_getElem? (i := 67) (by decide +kernel), List.mem_of_getElem? (i := 497) (by decide +kernel), List.mem_of_getElem? (i := 498) (by decide +kernel)⟩
theorem lw_p30 : lw_okq (⟨"TrimmedMachine$Run", "needInt", "(J)I"⟩, 15) := ⟨⟨by decide +kernel, by decide +kernel⟩, List.mem_of_getElem? (i := 67) (by decide +kernel), List.mem_of_getElem? (i := 501) (by decide +kernel), List.mem_of_getElem? (i := 502) (by decide +kernel)⟩
theorem lw_p31 : lw_okq (⟨"TrimmedMachine$Run", "branch", "(I)V"⟩, 15) := ⟨⟨by decide +kernel, by decide +kernel⟩, List.mem_of_getElem? (i := 67) (by decide +kernel), List.mem_of_getElem? (i := 524) (by decide +kernel), List.mem_of_getElem? (i := 525) (by decide +kernel)⟩
def lw_privs_2 : List (MethodName × Nat) := [(⟨"TrimmedMachine$Run", "evaluate", "()V"⟩, 15), (⟨"TrimmedMachine$Run", "returnValue", "(J)V"⟩, 15), (⟨"TrimmedMachine$Rows", "setSingle", "(IJ)V"⟩, 2), (⟨"TrimmedMachine$Rows", "give", "(IIJ)V"⟩, 2), (⟨"TrimmedMachine$Run", "evaluateVariable", "(I)V"⟩, 15), (⟨"TrimmedMachine$Run", "evaluateFunction", "(I)V"⟩, 15), (⟨"TrimmedMachine$Closures", "unusedSlot", "()I"⟩, 4), (⟨"TrimmedMachine$Rows", "copyTrimmed", "(III)V"⟩, 2), (⟨"TrimmedMachine$Rows", "copy", "(II)V"⟩, 2), (⟨"TrimmedMachine$Run", "evaluateFirst", "(III)V"⟩, 15), (⟨"TrimmedMachine$Run", "returnToFrame", "()V"⟩, 15), (⟨"TrimmedMachine$Run", "evaluateSecond", "(II)V"⟩, 15), (⟨"TrimmedMachine$Rows", "single", "(I)J"⟩, 2), (⟨"TrimmedMachine$Run", "operate", "(I)V"⟩, 15), (⟨"TrimmedMachine$Run", "needInt", "(J)I"⟩, 15), (⟨"TrimmedMachine$Run", "branch", "(I)V"⟩, 15)]
theorem lw_r2 : ∀ q ∈ lw_privs_2, lw_okq q := List.forall_mem_cons.mpr ⟨lw_p16, List.forall_mem_cons.mpr ⟨lw_p17, List.forall_mem_cons.mpr ⟨lw_p18, List.forall_mem_cons.mpr ⟨lw_p19, List.forall_mem_cons.mpr ⟨lw_p20, List.forall_mem_cons.mpr ⟨lw_p21, List.forall_mem_cons.mpr ⟨lw_p22, List.forall_mem_cons.mpr ⟨lw_p23, List.forall_mem_cons.mpr ⟨lw_p24, List.forall_mem_cons.mpr ⟨lw_p25, List.forall_mem_cons.mpr ⟨lw_p26, List.forall_mem_cons.mpr ⟨lw_p27, List.forall_mem_cons.mpr ⟨lw_p28, List.forall_mem_cons.mpr ⟨lw_p29, List.forall_mem_cons.mpr ⟨lw_p30, List.forall_mem_cons.mpr ⟨lw_p31, fun _ h => absurd h List.not_mem_nil⟩⟩⟩⟩⟩⟩⟩⟩⟩⟩⟩⟩⟩⟩⟩⟩
theorem lw_p32 : lw_okq (⟨"TrimmedMachine$Run", "apply", "(I)V"⟩, 15) := ⟨⟨by decide +kernel, by decide +kernel⟩, List.mem_of_getElem? (i := 67) (by decide +kernel), List.mem_of_getElem? (i := 528) (by decide +kernel), List.mem_of_getElem? (i := 529) (by decide +kernel)⟩
theorem lw_p33 : lw_okq (⟨"TrimmedMachine$Run", "needClosure", "(J)I"⟩, 15) := ⟨⟨by decide +kernel, by decide +kernel⟩, List.mem_of_getElem? (i := 67) (by decide +kernel), List.mem_of_getElem? (i := 532) (by decide +kernel), List.mem_of_getElem? (i := 533) (by decide +kernel)⟩
theorem lw_p34 : lw_okq (⟨"TrimmedMachine$Run", "end", "()V"⟩, 15) := ⟨⟨by decide +kernel, by decide +kernel⟩, List.mem_of_getElem? (i := 67) (by decide +kernel), List.mem_of_getElem? (i := 538) (by decide +kernel), List.mem_of_getElem? (i := 539) (by decide +kernel)⟩
theorem lw_p35 : lw_okq (⟨"TrimmedMachine$Run", "refuseTooMuchSpace", "()V"⟩, 15) := ⟨⟨by decide +kernel, by decide +kernel⟩, List.mem_of_getElem? (i := 67) (by decide +kernel), List.mem_of_getElem? (i := 542) (by decide +kernel), List.mem_of_getElem? (i := 543) (by decide +kernel)⟩
theorem lw_p36 : lw_okq (⟨"TrimmedMachine", "requireEnded", "()V"⟩, 2) := ⟨⟨by decide +kernel, by decide +kernel⟩, List.mem_of_getElem? (i := 19) (by decide +kernel), List.mem_of_getElem? (i := 555) (by decide +kernel), List.mem_of_getElem? (i := 556) (by decide +kernel)⟩
theorem lw_p37 : lw_okq (⟨"TrimmedMachineModel", "make", "(ZIIIIII)I"⟩, 31) := ⟨⟨by decide +kernel, by decide +kernel⟩, List.mem_of_getElem? (i := 567) (by decide +kernel), List.mem_of_getElem? (i := 675) (by decide +kernel), List.mem_of_getElem? (i := 676) (by decide +kernel)⟩
theorem lw_p38 : lw_okq (⟨"TrimmedMachineModel", "isPart", "(I)Z"⟩, 31) := ⟨⟨by decide +kernel, by decide +kernel⟩, List.mem_of_getElem? (i := 567) (by decide +kernel), List.mem_of_getElem? (i := 690) (by decide +kernel), List.mem_of_getElem? (i := 691) (by decide +kernel)⟩
theorem lw_p39 : lw_okq (⟨"TrimmedMachineModel", "freeOf", "(I)I"⟩, 31) := ⟨⟨by decide +kernel, by decide +kernel⟩, List.mem_of_getElem? (i := 567) (by decide +kernel), List.mem_of_getElem? (i := 694) (by decide +kernel), List.mem_of_getElem? (i := 695) (by decide +kernel)⟩
theorem lw_p40 : lw_okq (⟨"TrimmedMachineModel", "highOf", "(I)I"⟩, 31) := ⟨⟨by decide +kernel, by decide +kernel⟩, List.mem_of_getElem? (i := 567) (by decide +kernel), List.mem_of_getElem? (i := 698) (by decide +kernel), List.mem_of_getElem? (i := 699) (by decide +kernel)⟩
theorem lw_p41 : lw_okq (⟨"TrimmedMachineModel", "measure", "()V"⟩, 31) := ⟨⟨by decide +kernel, by decide +kernel⟩, List.mem_of_getElem? (i := 567) (by decide +kernel), List.mem_of_getElem? (i := 725) (by decide +kernel), List.mem_of_getElem? (i := 726) (by decide +kernel)⟩
theorem lw_p42 : lw_okq (⟨"TrimmedMachineModel", "note", "(II)I"⟩, 31) := ⟨⟨by decide +kernel, by decide +kernel⟩, List.mem_of_getElem? (i := 567) (by decide +kernel), List.mem_of_getElem? (i := 732) (by decide +kernel), List.mem_of_getElem? (i := 733) (by decide +kernel)⟩
theorem lw_p43 : lw_okq (⟨"TrimmedMachineModel", "noteAll", "(II)I"⟩, 31) := ⟨⟨by decide +kernel, by decide +kernel⟩, List.mem_of_getElem? (i := 567) (by decide +kernel), List.mem_of_getElem? (i := 736) (by decide +kernel), List.mem_of_getElem? (i := 737) (by decide +kernel)⟩
theorem lw_p44 : lw_okq (⟨"TrimmedMachineModel", "step", "()Z"⟩, 31) := ⟨⟨by decide +kernel, by decide +kernel⟩, List.mem_of_getElem? (i := 567) (by decide +kernel), List.mem_of_getElem? (i := 747) (by decide +kernel), List.mem_of_getElem? (i := 748) (by decide +kernel)⟩
theorem lw_p45 : lw_okq (⟨"TrimmedMachineModel", "goBack", "()V"⟩, 31) := ⟨⟨by decide +kernel, by decide +kernel⟩, List.mem_of_getElem? (i := 567) (by decide +kernel), List.mem_of_getElem? (i := 751) (by decide +kernel), List.mem_of_getElem? (i := 752) (by decide +kernel)⟩
theorem lw_p46 : lw_okq (⟨"TrimmedMachineModel", "evaluateIn", "(II)V"⟩, 31) := ⟨⟨by decide +kernel, by decide +kernel⟩, List.mem_of_getElem? (i := 567) (by decide +kernel), List.mem_of_getElem? (i := 755) (by decide +kernel), List.mem_of_getElem? (i := 756) (by decide +kernel)⟩
theorem lw_p47 : lw_okq (⟨"TrimmedMachineModel", "copy", "(III)V"⟩, 31) := ⟨⟨by decide +kernel, by decide +kernel⟩, List.mem_of_getElem? (i := 567) (by decide +kernel), List.mem_of_getElem? (i := 759) (by decide +kernel), List.mem_of_getElem? (i := 760) (by decide +kernel)⟩
def lw_privs_3 : List (MethodName × Nat) := [(⟨"TrimmedMachine$Run", "apply", "(I)V"⟩, 15), (⟨"TrimmedMachine$Run", "needClosure", "(J)I"⟩, 15), (⟨"TrimmedMachine$Run", "end", "()V"⟩, 15), (⟨"TrimmedMachine$Run", "refuseTooMuchSpace", "()V"⟩, 15), (⟨"TrimmedMachine", "requireEnded", "()V"⟩, 2), (⟨"TrimmedMachineModel", "make", "(ZIIIIII)I"⟩, 31), (⟨"TrimmedMachineModel", "isPart", "(I)Z"⟩, 31), (⟨"TrimmedMachineModel", "freeOf", "(I)I"⟩, 31), (⟨"TrimmedMachineModel", "highOf", "(I)I"⟩, 31), (⟨"TrimmedMachineModel", "measure", "()V"⟩, 31), (⟨"TrimmedMachineModel", "note", "(II)I"⟩, 31), (⟨"TrimmedMachineModel", "noteAll", "(II)I"⟩, 31), (⟨"TrimmedMachineModel", "step", "()Z"⟩, 31), (⟨"TrimmedMachineModel", "goBack", "()V"⟩, 31), (⟨"TrimmedMachineModel", "evaluateIn", "(II)V"⟩, 31), (⟨"TrimmedMachineModel", "copy", "(III)V"⟩, 31)]
theorem lw_r3 : ∀ q ∈ lw_privs_3, lw_okq q := List.forall_mem_cons.mpr ⟨lw_p32, List.forall_mem_cons.mpr ⟨lw_p33, List.forall_mem_cons.mpr ⟨lw_p34, List.forall_mem_cons.mpr ⟨lw_p35, List.forall_mem_cons.mpr ⟨lw_p36, List.forall_mem_cons.mpr ⟨lw_p37, List.forall_mem_cons.mpr ⟨lw_p38, List.forall_mem_cons.mpr ⟨lw_p39, List.forall_mem_cons.mpr ⟨lw_p40, List.forall_mem_cons.mpr ⟨lw_p41, List.forall_mem_cons.mpr ⟨lw_p42, List.forall_mem_cons.mpr ⟨lw_p43, List.forall_mem_cons.mpr ⟨lw_p44, List.forall_mem_cons.mpr ⟨lw_p45, List.forall_mem_cons.mpr ⟨lw_p46, List.forall_mem_cons.mpr ⟨lw_p47, fun _ h => absurd h List.not_mem_nil⟩⟩⟩⟩⟩⟩⟩⟩⟩⟩⟩⟩⟩⟩⟩⟩
theorem lw_p48 : lw_okq (⟨"TrimmedMachineModel", "giveBack", "(IZ)V"⟩, 31) := ⟨⟨by decide +kernel, by decide +kernel⟩, List.mem_of_getElem? (i := 567) (by decide +kernel), List.mem_of_getElem? (i := 766) (by decide +kernel), List.mem_of_getElem? (i := 767) (by decide +kernel)⟩
theorem lw_p49 : lw_okq (⟨"TrimmedMachineModel", "apply", "(IIZ)V"⟩, 31) := ⟨⟨by decide +kernel, by decide +kernel⟩, List.mem_of_getElem? (i := 567) (by decide +kernel), List.mem_of_getElem? (i := 770) (by decide +kernel), List.mem_of_getElem? (i := 771) (by decide +kernel)⟩
theorem lw_p50 : lw_okq (⟨"TrimmedMachineModel", "give", "(IIIZ)V"⟩, 31) := ⟨⟨by decide +kernel, by decide +kernel⟩, List.mem_of_getElem? (i := 567) (by decide +kernel), List.mem_of_getElem? (i := 774) (by decide +kernel), List.mem_of_getElem? (i := 775) (by decide +kernel)⟩
theorem lw_p51 : lw_okq (⟨"TrimmedMachineModel", "evaluate", "()V"⟩, 31) := ⟨⟨by decide +kernel, by decide +kernel⟩, List.mem_of_getElem? (i := 567) (by decide +kernel), List.mem_of_getElem? (i := 778) (by decide +kernel), List.mem_of_getElem? (i := 779) (by decide +kernel)⟩
theorem lw_p52 : lw_okq (⟨"TrimmedMachineModel", "closure", "(I)V"⟩, 31) := ⟨⟨by decide +kernel, by decide +kernel⟩, List.mem_of_getElem? (i := 567) (by decide +kernel), List.mem_of_getElem? (i := 782) (by decide +kernel), List.mem_of_getElem? (i := 783) (by decide +kernel)⟩
theorem lw_p53 : lw_okq (⟨"TrimmedMachineModel", "push", "(IIII)V"⟩, 31) := ⟨⟨by decide +kernel, by decide +kernel⟩, List.mem_of_getElem? (i := 567) (by decide +kernel), List.mem_of_getElem? (i := 786) (by decide +kernel), List.mem_of_getElem? (i := 787) (by decide +kernel)⟩
def lw_privs_4 : List (MethodName × Nat) := [(⟨"TrimmedMachineModel", "giveBack", "(IZ)V"⟩, 31), (⟨"TrimmedMachineModel", "apply", "(IIZ)V"⟩, 31), (⟨"TrimmedMachineModel", "give", "(IIIZ)V"⟩, 31), (⟨"TrimmedMachineModel", "evaluate", "()V"⟩, 31), (⟨"TrimmedMachineModel", "closure", "(I)V"⟩, 31), (⟨"TrimmedMachineModel", "push", "(IIII)V"⟩, 31)]
theorem lw_r4 : ∀ q ∈ lw_privs_4, lw_okq q := List.forall_mem_cons.mpr ⟨lw_p48, List.forall_mem_cons.mpr ⟨lw_p49, List.forall_mem_cons.mpr ⟨lw_p50, List.forall_mem_cons.mpr ⟨lw_p51, List.forall_mem_cons.mpr ⟨lw_p52, List.forall_mem_cons.mpr ⟨lw_p53, fun _ h => absurd h List.not_mem_nil⟩⟩⟩⟩⟩⟩
def lw_privs : List (MethodName × Nat) := lw_privs_1 ++ (lw_privs_2 ++ (lw_privs_3 ++ (lw_privs_4)))
def lw_tbl : List Cond := k2_sels lw_privs ++ tables_1
theorem lw_privs_ok : ∀ q ∈ lw_privs, lw_okq q := by
  show ∀ q ∈ lw_privs_1 ++ (lw_privs_2 ++ (lw_privs_3 ++ (lw_privs_4))), lw_okq q
  exact List.forall_mem_append.mpr ⟨lw_r1, List.forall_mem_append.mpr ⟨lw_r2, List.forall_mem_append.mpr ⟨lw_r3, lw_r4⟩⟩⟩
def F_TM : u_T := fun k => match k with
  | 0 => ("TrimmedMachine", "expressions", "LTrimmedMachine$Expressions;", true)
  | _ => ("TrimmedMachine", "run", "LTrimmedMachine$Run;", true)
def t_TM : Nat → FieldType := fun k => match k with
  | 0 => .object "TrimmedMachine$Expressions"
  | _ => .object "TrimmedMachine$Run"
def F_EX : u_T := fun k => match k with
  | 0 => ("TrimmedMachine$Expressions", "kinds", "[I", true)
  | 1 => ("TrimmedMachine$Expressions", "firsts", "[I", true)
  | 2 => ("TrimmedMachine$Expressions", "seconds", "[I", true)
  | 3 => ("TrimmedMachine$Expressions", "thirds", "[I", true)
  | 4 => ("TrimmedMachine$Expressions", "unbound", "[I", true)
  | 5 => ("TrimmedMachine$Expressions", "heights", "[I", true)
  | _ => ("TrimmedMachine$Expressions", "count", "I", false)
def t_EX : Nat → FieldType := fun k => match k with
  | 0 => .array .int
  | 1 => .array .int
  | 2 => .array .int
  | 3 => .array .int
  | 4 => .array .int
  | 5 => .array .int
  | _ => .int
def F_RN : u_T := fun k => match k with
  | 0 => ("TrimmedMachine$Run", "expressions", "LTrimmedMachine$Expressions;", true)
  | 1 => ("TrimmedMachine$Run", "rows", "LTrimmedMachine$Rows;", true)
  | 2 => ("TrimmedMachine$Run", "closures", "LTrimmedMachine$Closures;", true)
  | 3 => ("TrimmedMachine$Run", "frameKinds", "[I", true)
  | 4 => ("TrimmedMachine$Run", "frameExpressions", "[I", true)
  | 5 => ("TrimmedMachine$Run", "frames", "I", false)
  | 6 => ("TrimmedMachine$Run", "status", "I", false)
  | 7 => ("TrimmedMachine$Run", "capacity", "I", false)
  | 8 => ("TrimmedMachine$Run", "stepsDone", "I", false)
  | 9 => ("TrimmedMachine$Run", "space", "I", false)
  | 10 => ("TrimmedMachine$Run", "peak", "I", false)
  | 11 => ("TrimmedMachine$Run", "evaluates", "Z", false)
  | 12 => ("TrimmedMachine$Run", "expression", "I", false)
  | 13 => ("TrimmedMachine$Run", "result", "I", false)
  | _ => ("TrimmedMachine$Run", "resultIsClosure", "Z", false)
def t_RN : Nat → FieldType := fun k => match k with
  | 0 => .object "TrimmedMachine$Expressions"
  | 1 => .object "TrimmedMachine$Rows"
  | 2 => .object "TrimmedMachine$Closures"
  | 3 => .array .int
  | 4 => .array .int
  | 5 => .int
  | 6 => .int
  | 7 => .int
  | 8 => .int
  | 9 => .int
  | 10 => .int
  | 11 => .boolean
  | 12 => .int
  | 13 => .int
  | _ => .boolean
def F_RW : u_T := fun k => match k with
  | 0 => ("TrimmedMachine$Rows", "given", "[I", true)
  | _ => ("TrimmedMachine$Rows", "values", "[J", true)
def t_RW : Nat → FieldType := fun k => match k with
  | 0 => .array .int
  | _ => .array .long
def F_CL : u_T := fun k => match k with
  | 0 => ("TrimmedMachine$Closures", "functions", "[I", true)
  | 1 => ("TrimmedMachine$Closures", "lives", "[Z", true)
  | 2 => ("TrimmedMachine$Closures", "slots", "[I", true)
  | _ => ("TrimmedMachine$Closures", "living", "I", false)
def t_CL : Nat → FieldType := fun k => match k with
  | 0 => .array .int
  | 1 => .array .boolean
  | 2 => .array .int
  | _ => .int
def F_MD : u_T := fun k => match k with
  | 0 => ("TrimmedMachineModel", "expressions", "I", false)
  | 1 => ("TrimmedMachineModel", "kind", "[I", true)
  | 2 => ("TrimmedMachineModel", "one", "[I", true)
  | 3 => ("TrimmedMachineModel", "two", "[I", true)
  | 4 => ("TrimmedMachineModel", "three", "[I", true)
  | 5 => ("TrimmedMachineModel", "free", "[I", true)
  | 6 => ("TrimmedMachineModel", "height", "[I", true)
  | 7 => ("TrimmedMachineModel", "has", "[I", true)
  | 8 => ("TrimmedMachineModel", "value", "[I", true)
  | 9 => ("TrimmedMachineModel", "closed", "[Z", true)
  | 10 => ("TrimmedMachineModel", "functionOf", "[I", true)
  | 11 => ("TrimmedMachineModel", "reached", "[Z", true)
  | 12 => ("TrimmedMachineModel", "open", "[I", true)
  | 13 => ("TrimmedMachineModel", "run", "I", false)
  | 14 => ("TrimmedMachineModel", "capacity", "I", false)
  | 15 => ("TrimmedMachineModel", "done", "I", false)
  | 16 => ("TrimmedMachineModel", "peak", "I", false)
  | 17 => ("TrimmedMachineModel", "space", "I", false)
  | 18 => ("TrimmedMachineModel", "closures", "I", false)
  | 19 => ("TrimmedMachineModel", "returns", "Z", false)
  | 20 => ("TrimmedMachineModel", "expression", "I", false)
  | 21 => ("TrimmedMachineModel", "result", "I", false)
  | 22 => ("TrimmedMachineModel", "resultCloses", "Z", false)
  | 23 => ("TrimmedMachineModel", "frames", "I", false)
  | 24 => ("TrimmedMachineModel", "frame", "[I", true)
  | 25 => ("TrimmedMachineModel", "first", "[I", true)
  | 26 => ("TrimmedMachineModel", "second", "[I", true)
  | 27 => ("TrimmedMachineModel", "kept", "[I", true)
  | 28 => ("TrimmedMachineModel", "keptCloses", "[Z", true)
  | 29 => ("TrimmedMachineModel", "trap", "I", false)
  | _ => ("TrimmedMachineModel", "thrown", "I", false)
def t_MD : Nat → FieldType := fun k => match k with
  | 0 => .int
  | 1 => .array .int
  | 2 => .array .int
  | 3 => .array .int
  | 4 => .array .int
  | 5 => .array .int
  | 6 => .array .int
  | 7 => .array .int
  | 8 => .array .int
  | 9 => .array .boolean
  | 10 => .array .int
  | 11 => .array .boolean
  | 12 => .array .int
  | 13 => .int
  | 14 => .int
  | 15 => .int
  | 16 => .int
  | 17 => .int
  | 18 => .int
  | 19 => .boolean
  | 20 => .int
  | 21 => .int
  | 22 => .boolean
  | 23 => .int
  | 24 => .array .int
  | 25 => .array .int
  | 26 => .array .int
  | 27 => .array .int
  | 28 => .array .boolean
  | 29 => .int
  | _ => .int
abbrev tm_cl : List vw_C := [("TrimmedMachine", F_TM, 2), ("TrimmedMachine$Expressions", F_EX, 7), ("TrimmedMachine$Run", F_RN, 15), ("TrimmedMachine$Rows", F_RW, 2), ("TrimmedMachine$Closures", F_CL, 4), ("TrimmedMachineModel", F_MD, 31)]
theorem n_TM : ∀ a, a < 2 → ∀ b, b < 2 → a ≠ b → (F_TM a).2.1 ≠ (F_TM b).2.1 := by decide +kernel
theorem t_TM_ok : ∀ k, k < 2 → parseFieldDescriptor (F_TM k).2.2.1 = some (t_TM k) := by decide +kernel
theorem n_EX : ∀ a, a < 7 → ∀ b, b < 7 → a ≠ b → (F_EX a).2.1 ≠ (F_EX b).2.1 := by decide +kernel
theorem t_EX_ok : ∀ k, k < 7 → parseFieldDescriptor (F_EX k).2.2.1 = some (t_EX k) := by decide +kernel
theorem n_RN : ∀ a, a < 15 → ∀ b, b < 15 → a ≠ b → (F_RN a).2.1 ≠ (F_RN b).2.1 := by decide +kernel
theorem t_RN_ok : ∀ k, k < 15 → parseFieldDescriptor (F_RN k).2.2.1 = some (t_RN k) := by decide +kernel
theorem n_RW : ∀ a, a < 2 → ∀ b, b < 2 → a ≠ b → (F_RW a).2.1 ≠ (F_RW b).2.1 := by decide +kernel
theorem t_RW_ok : ∀ k, k < 2 → parseFieldDescriptor (F_RW k).2.2.1 = some (t_RW k) := by decide +kernel
theorem n_CL : ∀ a, a < 4 → ∀ b, b < 4 → a ≠ b → (F_CL a).2.1 ≠ (F_CL b).2.1 := by decide +kernel
theorem t_CL_ok : ∀ k, k < 4 → parseFieldDescriptor (F_CL k).2.2.1 = some (t_CL k) := by decide +kernel
theorem n_MD : ∀ a, a < 31 → ∀ b, b < 31 → a ≠ b → (F_MD a).2.1 ≠ (F_MD b).2.1 := by decide +kernel
theorem t_MD_ok : ∀ k, k < 31 → parseFieldDescriptor (F_MD k).2.2.1 = some (t_MD k) := by decide +kernel
