theorem kw_3 : (Jvm.Cond.initialized "TrimmedMachine$Run") ∈ tm_wa := tm_tb (List.mem_append_left _ (List.mem_of_getElem? (i := 3) (by decide +kernel))) rfl
theorem kw_14 : (Jvm.Cond.initialized "java/lang/Integer") ∈ tm_wa := tm_tb (List.mem_append_left _ (List.mem_of_getElem? (i := 14) (by decide +kernel))) rfl
theorem kw_39 : (Jvm.Cond.fieldLinkNest "TrimmedMachine$Run" (109 : Nat) "TrimmedMachine$Expressions" "seconds" "[I" "TrimmedMachine") ∈ tm_nw := tm_nin (List.mem_append_left _ (List.mem_of_getElem? (i := 39) (by decide +kernel))) rfl
theorem kw_46 : (Jvm.Cond.fieldLinkNest "TrimmedMachine$Run" (216 : Nat) "TrimmedMachine$Expressions" "unbound" "[I" "TrimmedMachine") ∈ tm_nw := tm_nin (List.mem_append_left _ (List.mem_of_getElem? (i := 46) (by decide +kernel))) rfl
theorem kw_79 : (Jvm.Cond.fieldLinkNest "TrimmedMachine$Run" (238 : Nat) "TrimmedMachine$Rows" "given" "[I" "TrimmedMachine") ∈ tm_nw := tm_nin (List.mem_append_left _ (List.mem_of_getElem? (i := 79) (by decide +kernel))) rfl
theorem kw_94 : (Jvm.Cond.fieldLinkNest "TrimmedMachine$Run" (147 : Nat) "TrimmedMachine$Closures" "functions" "[I" "TrimmedMachine") ∈ tm_nw := tm_nin (List.mem_append_left _ (List.mem_of_getElem? (i := 94) (by decide +kernel))) rfl
theorem kw_97 : (Jvm.Cond.fieldLinkNest "TrimmedMachine$Run" (235 : Nat) "TrimmedMachine$Closures" "slots" "[I" "TrimmedMachine") ∈ tm_nw := tm_nin (List.mem_append_left _ (List.mem_of_getElem? (i := 97) (by decide +kernel))) rfl
theorem kw_100 : (Jvm.Cond.fieldLinkNest "TrimmedMachine$Run" (232 : Nat) "TrimmedMachine$Closures" "living" "I" "TrimmedMachine") ∈ tm_nw := tm_nin (List.mem_append_left _ (List.mem_of_getElem? (i := 100) (by decide +kernel))) rfl
theorem kw_111 : (Jvm.Cond.fieldLink "TrimmedMachine$Run" (36 : Nat) "TrimmedMachine$Run" "expressions" "LTrimmedMachine$Expressions;") ∈ tm_wa := tm_tb (List.mem_append_left _ (List.mem_of_getElem? (i := 111) (by decide +kernel))) rfl
theorem kw_112 : (Jvm.Cond.fieldLink "TrimmedMachine$Run" (12 : Nat) "TrimmedMachine$Run" "rows" "LTrimmedMachine$Rows;") ∈ tm_wa := tm_tb (List.mem_append_left _ (List.mem_of_getElem? (i := 112) (by decide +kernel))) rfl
theorem kw_113 : (Jvm.Cond.fieldLink "TrimmedMachine$Run" (21 : Nat) "TrimmedMachine$Run" "closures" "LTrimmedMachine$Closures;") ∈ tm_wa := tm_tb (List.mem_append_left _ (List.mem_of_getElem? (i := 113) (by decide +kernel))) rfl
theorem kw_115 : (Jvm.Cond.fieldLink "TrimmedMachine$Run" (25 : Nat) "TrimmedMachine$Run" "frameKinds" "[I") ∈ tm_wa := tm_tb (List.mem_append_left _ (List.mem_of_getElem? (i := 115) (by decide +kernel))) rfl
theorem kw_116 : (Jvm.Cond.fieldLink "TrimmedMachine$Run" (29 : Nat) "TrimmedMachine$Run" "frameExpressions" "[I") ∈ tm_wa := tm_tb (List.mem_append_left _ (List.mem_of_getElem? (i := 116) (by decide +kernel))) rfl
theorem kw_117 : (Jvm.Cond.fieldLink "TrimmedMachine$Run" (46 : Nat) "TrimmedMachine$Run" "frames" "I") ∈ tm_wa := tm_tb (List.mem_append_left _ (List.mem_of_getElem? (i := 117) (by decide +kernel))) rfl
theorem kw_119 : (Jvm.Cond.fieldLink "TrimmedMachine$Run" (32 : Nat) "TrimmedMachine$Run" "status" "I") ∈ tm_wa := tm_tb (List.mem_append_left _ (List.mem_of_getElem? (i := 119) (by decide +kernel))) rfl
theorem kw_121 : (Jvm.Cond.fieldLink "TrimmedMachine$Run" (40 : Nat) "TrimmedMachine$Run" "capacity" "I") ∈ tm_wa := tm_tb (List.mem_append_left _ (List.mem_of_getElem? (i := 121) (by decide +kernel))) rfl
theorem kw_122 : (Jvm.Cond.fieldLink "TrimmedMachine$Run" (43 : Nat) "TrimmedMachine$Run" "stepsDone" "I") ∈ tm_wa := tm_tb (List.mem_append_left _ (List.mem_of_getElem? (i := 122) (by decide +kernel))) rfl
theorem kw_124 : (Jvm.Cond.fieldLink "TrimmedMachine$Run" (79 : Nat) "TrimmedMachine$Run" "space" "I") ∈ tm_wa := tm_tb (List.mem_append_left _ (List.mem_of_getElem? (i := 124) (by decide +kernel))) rfl
theorem kw_126 : (Jvm.Cond.fieldLink "TrimmedMachine$Run" (49 : Nat) "TrimmedMachine$Run" "peak" "I") ∈ tm_wa := tm_tb (List.mem_append_left _ (List.mem_of_getElem? (i := 126) (by decide +kernel))) rfl
theorem kw_128 : (Jvm.Cond.fieldLink "TrimmedMachine$Run" (63 : Nat) "TrimmedMachine$Run" "evaluates" "Z") ∈ tm_wa := tm_tb (List.mem_append_left _ (List.mem_of_getElem? (i := 128) (by decide +kernel))) rfl
theorem kw_129 : (Jvm.Cond.fieldLink "TrimmedMachine$Run" (88 : Nat) "TrimmedMachine$Run" "expression" "I") ∈ tm_wa := tm_tb (List.mem_append_left _ (List.mem_of_getElem? (i := 129) (by decide +kernel))) rfl
theorem kw_131 : (Jvm.Cond.fieldLink "TrimmedMachine$Run" (213 : Nat) "TrimmedMachine$Run" "result" "I") ∈ tm_wa := tm_tb (List.mem_append_left _ (List.mem_of_getElem? (i := 131) (by decide +kernel))) rfl
theorem kw_133 : (Jvm.Cond.fieldLink "TrimmedMachine$Run" (207 : Nat) "TrimmedMachine$Run" "resultIsClosure" "Z") ∈ tm_wa := tm_tb (List.mem_append_left _ (List.mem_of_getElem? (i := 133) (by decide +kernel))) rfl
theorem kw_344 : (Jvm.Cond.instanceMethod ({ cls := "TrimmedMachine$Run", name := "start", desc := "(II)V" } : Jvm.MethodName)) ∈ tm_wa := tm_tb (List.mem_append_right _ (List.mem_append_left _ (List.mem_of_getElem? (i := 104) (by decide +kernel)))) rfl
theorem kw_345 : (Jvm.Cond.code ({ cls := "TrimmedMachine$Run", name := "start", desc := "(II)V" } : Jvm.MethodName) prog_5_method_2_code (3 : Nat) (Option.none : Option Jvm.ClassFile.FieldType)) ∈ tm_wa := tm_tb (List.mem_append_right _ (List.mem_append_left _ (List.mem_of_getElem? (i := 105) (rfl)))) rfl
theorem kw_346 : (Jvm.Cond.methodLinkNest "TrimmedMachine$Run" (52 : Nat) ({ cls := "TrimmedMachine$Rows", name := "trim", desc := "(II)V" } : Jvm.MethodName) "TrimmedMachine") ∈ tm_nw := tm_nin (List.mem_append_right _ (List.mem_append_left _ (List.mem_of_getElem? (i := 106) (by decide +kernel)))) rfl
theorem kw_350 : (Jvm.Cond.methodLink "TrimmedMachine$Run" (56 : Nat) ({ cls := "TrimmedMachine$Run", name := "evaluateTrimmed", desc := "(I)V" } : Jvm.MethodName)) ∈ tm_wa := tm_tb (List.mem_append_right _ (List.mem_append_left _ (List.mem_of_getElem? (i := 110) (by decide +kernel)))) rfl
theorem kw_352 : (Jvm.Cond.instanceMethod ({ cls := "TrimmedMachine$Run", name := "evaluateTrimmed", desc := "(I)V" } : Jvm.MethodName)) ∈ tm_wa := tm_tb (List.mem_append_right _ (List.mem_append_left _ (List.mem_of_getElem? (i := 112) (by decide +kernel)))) rfl
theorem kw_353 : (Jvm.Cond.code ({ cls := "TrimmedMachine$Run", name := "evaluateTrimmed", desc := "(I)V" } : Jvm.MethodName) prog_5_method_15_code (2 : Nat) (Option.none : Option Jvm.ClassFile.FieldType)) ∈ tm_wa := tm_tb (List.mem_append_right _ (List.mem_append_left _ (List.mem_of_getElem? (i := 113) (rfl)))) rfl
theorem kw_354 : (Jvm.Cond.methodLink "TrimmedMachine$Run" (112 : Nat) ({ cls := "TrimmedMachine$Run", name := "freeIn", desc := "(I)I" } : Jvm.MethodName)) ∈ tm_wa := tm_tb (List.mem_append_right _ (List.mem_append_left _ (List.mem_of_getElem? (i := 114) (by decide +kernel)))) rfl
theorem kw_356 : (Jvm.Cond.instanceMethod ({ cls := "TrimmedMachine$Run", name := "freeIn", desc := "(I)I" } : Jvm.MethodName)) ∈ tm_wa := tm_tb (List.mem_append_right _ (List.mem_append_left _ (List.mem_of_getElem? (i := 116) (by decide +kernel)))) rfl
theorem kw_357 : (Jvm.Cond.code ({ cls := "TrimmedMachine$Run", name := "freeIn", desc := "(I)I" } : Jvm.MethodName) prog_5_method_16_code (2 : Nat) (Option.some Jvm.ClassFile.FieldType.int)) ∈ tm_wa := tm_tb (List.mem_append_right _ (List.mem_append_left _ (List.mem_of_getElem? (i := 117) (rfl)))) rfl
theorem kw_358 : (Jvm.Cond.methodLink "TrimmedMachine$Run" (60 : Nat) ({ cls := "TrimmedMachine$Run", name := "measure", desc := "()V" } : Jvm.MethodName)) ∈ tm_wa := tm_tb (List.mem_append_right _ (List.mem_append_left _ (List.mem_of_getElem? (i := 118) (by decide +kernel)))) rfl
theorem kw_360 : (Jvm.Cond.instanceMethod ({ cls := "TrimmedMachine$Run", name := "measure", desc := "()V" } : Jvm.MethodName)) ∈ tm_wa := tm_tb (List.mem_append_right _ (List.mem_append_left _ (List.mem_of_getElem? (i := 120) (by decide +kernel)))) rfl
theorem kw_361 : (Jvm.Cond.code ({ cls := "TrimmedMachine$Run", name := "measure", desc := "()V" } : Jvm.MethodName) prog_5_method_20_code (2 : Nat) (Option.none : Option Jvm.ClassFile.FieldType)) ∈ tm_wa := tm_tb (List.mem_append_right _ (List.mem_append_left _ (List.mem_of_getElem? (i := 121) (rfl)))) rfl
theorem kw_362 : (Jvm.Cond.methodLinkNest "TrimmedMachine$Run" (226 : Nat) ({ cls := "TrimmedMachine$Closures", name := "forgetLiving", desc := "()V" } : Jvm.MethodName) "TrimmedMachine") ∈ tm_nw := tm_nin (List.mem_append_right _ (List.mem_append_left _ (List.mem_of_getElem? (i := 122) (by decide +kernel)))) rfl
theorem kw_366 : (Jvm.Cond.methodLink "TrimmedMachine$Run" (229 : Nat) ({ cls := "TrimmedMachine$Run", name := "lookThrough", desc := "(I)I" } : Jvm.MethodName)) ∈ tm_wa := tm_tb (List.mem_append_right _ (List.mem_append_left _ (List.mem_of_getElem? (i := 126) (by decide +kernel)))) rfl
theorem kw_368 : (Jvm.Cond.instanceMethod ({ cls := "TrimmedMachine$Run", name := "lookThrough", desc := "(I)I" } : Jvm.MethodName)) ∈ tm_wa := tm_tb (List.mem_append_right _ (List.mem_append_left _ (List.mem_of_getElem? (i := 128) (by decide +kernel)))) rfl
theorem kw_369 : (Jvm.Cond.code ({ cls := "TrimmedMachine$Run", name := "lookThrough", desc := "(I)I" } : Jvm.MethodName) prog_5_method_21_code (4 : Nat) (Option.some Jvm.ClassFile.FieldType.int)) ∈ tm_wa := tm_tb (List.mem_append_right _ (List.mem_append_left _ (List.mem_of_getElem? (i := 129) (rfl)))) rfl
theorem kw_370 : (Jvm.Cond.methodLinkNest "TrimmedMachine$Run" (123 : Nat) ({ cls := "TrimmedMachine$Rows", name := "gives", desc := "(II)Z" } : Jvm.MethodName) "TrimmedMachine") ∈ tm_nw := tm_nin (List.mem_append_right _ (List.mem_append_left _ (List.mem_of_getElem? (i := 130) (by decide +kernel)))) rfl
theorem kw_374 : (Jvm.Cond.methodLinkNest "TrimmedMachine$Run" (134 : Nat) ({ cls := "TrimmedMachine$Rows", name := "get", desc := "(II)J" } : Jvm.MethodName) "TrimmedMachine") ∈ tm_nw := tm_nin (List.mem_append_right _ (List.mem_append_left _ (List.mem_of_getElem? (i := 134) (by decide +kernel)))) rfl
theorem kw_378 : (Jvm.Cond.methodLinkNest "TrimmedMachine$Run" (203 : Nat) ({ cls := "TrimmedMachine$Values", name := "standsForClosure", desc := "(J)Z" } : Jvm.MethodName) "TrimmedMachine") ∈ tm_nw := tm_nin (List.mem_append_right _ (List.mem_append_left _ (List.mem_of_getElem? (i := 138) (by decide +kernel)))) rfl
theorem kw_382 : (Jvm.Cond.methodLinkNest "TrimmedMachine$Run" (210 : Nat) ({ cls := "TrimmedMachine$Values", name := "slotOf", desc := "(J)I" } : Jvm.MethodName) "TrimmedMachine") ∈ tm_nw := tm_nin (List.mem_append_right _ (List.mem_append_left _ (List.mem_of_getElem? (i := 142) (by decide +kernel)))) rfl
theorem kw_385 : (Jvm.Cond.methodLinkNest "TrimmedMachine$Run" (241 : Nat) ({ cls := "TrimmedMachine$Closures", name := "noteLiving", desc := "(I)V" } : Jvm.MethodName) "TrimmedMachine") ∈ tm_nw := tm_nin (List.mem_append_right _ (List.mem_append_left _ (List.mem_of_getElem? (i := 145) (by decide +kernel)))) rfl
theorem kw_389 : (Jvm.Cond.methodLink "TrimmedMachine$Run" (244 : Nat) ({ cls := "java/lang/Integer", name := "bitCount", desc := "(I)I" } : Jvm.MethodName)) ∈ tm_wa := tm_tb (List.mem_append_right _ (List.mem_append_left _ (List.mem_of_getElem? (i := 149) (by decide +kernel)))) rfl
theorem kw_390 : (Jvm.Cond.static ({ cls := "java/lang/Integer", name := "bitCount", desc := "(I)I" } : Jvm.MethodName)) ∈ tm_wa := tm_tb (List.mem_append_right _ (List.mem_append_left _ (List.mem_of_getElem? (i := 150) (by decide +kernel)))) rfl
theorem kw_391 : (Jvm.Cond.code ({ cls := "java/lang/Integer", name := "bitCount", desc := "(I)I" } : Jvm.MethodName) prog_12_method_49_code (1 : Nat) (Option.some Jvm.ClassFile.FieldType.int)) ∈ tm_wa := tm_tb (List.mem_append_right _ (List.mem_append_left _ (List.mem_of_getElem? (i := 151) (rfl)))) rfl
theorem kw_392 : (Jvm.Cond.constant "java/lang/Integer" (265 : Nat) (1431655765 : Int32)) ∈ tm_wa := tm_tb (List.mem_append_right _ (List.mem_append_left _ (List.mem_of_getElem? (i := 152) (by decide +kernel)))) rfl
theorem kw_393 : (Jvm.Cond.constant "java/lang/Integer" (266 : Nat) (858993459 : Int32)) ∈ tm_wa := tm_tb (List.mem_append_right _ (List.mem_append_left _ (List.mem_of_getElem? (i := 153) (by decide +kernel)))) rfl
theorem kw_394 : (Jvm.Cond.constant "java/lang/Integer" (267 : Nat) (252645135 : Int32)) ∈ tm_wa := tm_tb (List.mem_append_right _ (List.mem_append_left _ (List.mem_of_getElem? (i := 154) (by decide +kernel)))) rfl
theorem kw_395 : (Jvm.Cond.methodLinkNest "TrimmedMachine$Run" (163 : Nat) ({ cls := "TrimmedMachine$Rows", name := "ofFrame", desc := "(I)I" } : Jvm.MethodName) "TrimmedMachine") ∈ tm_nw := tm_nin (List.mem_append_right _ (List.mem_append_left _ (List.mem_of_getElem? (i := 155) (by decide +kernel)))) rfl
theorem kw_398 : (Jvm.Cond.methodLinkNest "TrimmedMachine$Run" (150 : Nat) ({ cls := "TrimmedMachine$Rows", name := "ofClosure", desc := "(I)I" } : Jvm.MethodName) "TrimmedMachine") ∈ tm_nw := tm_nin (List.mem_append_right _ (List.mem_append_left _ (List.mem_of_getElem? (i := 158) (by decide +kernel)))) rfl
theorem kw_421 : (Jvm.Cond.instanceMethod ({ cls := "TrimmedMachine$Run", name := "returnValue", desc := "(J)V" } : Jvm.MethodName)) ∈ tm_wa := tm_tb (List.mem_append_right _ (List.mem_append_left _ (List.mem_of_getElem? (i := 181) (by decide +kernel)))) rfl
theorem kw_422 : (Jvm.Cond.code ({ cls := "TrimmedMachine$Run", name := "returnValue", desc := "(J)V" } : Jvm.MethodName) prog_5_method_14_code (3 : Nat) (Option.none : Option Jvm.ClassFile.FieldType)) ∈ tm_wa := tm_tb (List.mem_append_right _ (List.mem_append_left _ (List.mem_of_getElem? (i := 182) (rfl)))) rfl
theorem kw_423 : (Jvm.Cond.methodLinkNest "TrimmedMachine$Run" (184 : Nat) ({ cls := "TrimmedMachine$Rows", name := "setSingle", desc := "(IJ)V" } : Jvm.MethodName) "TrimmedMachine") ∈ tm_nw := tm_nin (List.mem_append_right _ (List.mem_append_left _ (List.mem_of_getElem? (i := 183) (by decide +kernel)))) rfl
theorem kw_488 : (Jvm.Cond.instanceMethod ({ cls := "TrimmedMachine$Run", name := "evaluateSecond", desc := "(II)V" } : Jvm.MethodName)) ∈ tm_wa := tm_tb (List.mem_append_right _ (List.mem_append_right _ (List.mem_append_left _ (List.mem_of_getElem? (i := 8) (by decide +kernel))))) rfl
theorem kw_489 : (Jvm.Cond.code ({ cls := "TrimmedMachine$Run", name := "evaluateSecond", desc := "(II)V" } : Jvm.MethodName) prog_5_method_9_code (6 : Nat) (Option.none : Option Jvm.ClassFile.FieldType)) ∈ tm_wa := tm_tb (List.mem_append_right _ (List.mem_append_right _ (List.mem_append_left _ (List.mem_of_getElem? (i := 9) (rfl))))) rfl
theorem kw_490 : (Jvm.Cond.methodLinkNest "TrimmedMachine$Run" (178 : Nat) ({ cls := "TrimmedMachine$Rows", name := "single", desc := "(I)J" } : Jvm.MethodName) "TrimmedMachine") ∈ tm_nw := tm_nin (List.mem_append_right _ (List.mem_append_right _ (List.mem_append_left _ (List.mem_of_getElem? (i := 10) (by decide +kernel))))) rfl
theorem kw_495 : (Jvm.Cond.methodLinkNest "TrimmedMachine$Run" (181 : Nat) ({ cls := "TrimmedMachine$Rows", name := "copy", desc := "(II)V" } : Jvm.MethodName) "TrimmedMachine") ∈ tm_nw := tm_nin (List.mem_append_right _ (List.mem_append_right _ (List.mem_append_left _ (List.mem_of_getElem? (i := 15) (by decide +kernel))))) rfl
theorem kw_521 : (Jvm.Cond.static ({ cls := "TrimmedMachine$Run", name := "operated", desc := "(III)I" } : Jvm.MethodName)) ∈ tm_wa := tm_tb (List.mem_append_right _ (List.mem_append_right _ (List.mem_append_left _ (List.mem_of_getElem? (i := 41) (by decide +kernel))))) rfl
theorem kw_522 : (Jvm.Cond.code ({ cls := "TrimmedMachine$Run", name := "operated", desc := "(III)I" } : Jvm.MethodName) prog_5_method_19_code (3 : Nat) (Option.some Jvm.ClassFile.FieldType.int)) ∈ tm_wa := tm_tb (List.mem_append_right _ (List.mem_append_right _ (List.mem_append_left _ (List.mem_of_getElem? (i := 42) (rfl))))) rfl
theorem kw_539 : (Jvm.Cond.instanceMethod ({ cls := "TrimmedMachine$Run", name := "end", desc := "()V" } : Jvm.MethodName)) ∈ tm_wa := tm_tb (List.mem_append_right _ (List.mem_append_right _ (List.mem_append_left _ (List.mem_of_getElem? (i := 59) (by decide +kernel))))) rfl
theorem kw_540 : (Jvm.Cond.code ({ cls := "TrimmedMachine$Run", name := "end", desc := "()V" } : Jvm.MethodName) prog_5_method_13_code (3 : Nat) (Option.none : Option Jvm.ClassFile.FieldType)) ∈ tm_wa := tm_tb (List.mem_append_right _ (List.mem_append_right _ (List.mem_append_left _ (List.mem_of_getElem? (i := 60) (rfl))))) rfl
abbrev y_INT_bitCount : MethodName := { cls := "java/lang/Integer", name := "bitCount", desc := "(I)I" }
abbrev b_INT_bitCount : ByteArray := prog_12_method_49_code
theorem ks_INT_bitCount : tm_ks y_INT_bitCount b_INT_bitCount 1 (some .int) 1 := ⟨⟨kw_14, kw_391, by decide, by decide, by decide +kernel⟩, kw_390⟩
abbrev y_RN_freeIn : MethodName := { cls := "TrimmedMachine$Run", name := "freeIn", desc := "(I)I" }
abbrev b_RN_freeIn : ByteArray := prog_5_method_16_code
theorem ki_RN_freeIn : tm_ki y_RN_freeIn b_RN_freeIn 2 (some .int) 1 := ⟨⟨kw_3, kw_357, by decide, by decide, by decide +kernel⟩, kw_356, tm_sel (n := 15) (List.mem_append_left _ (List.mem_of_getElem? (i := 8) rfl))⟩
abbrev y_RN_returnValue : MethodName := { cls := "TrimmedMachine$Run", name := "returnValue", desc := "(J)V" }
abbrev b_RN_returnValue : ByteArray := prog_5_method_14_code
theorem ki_RN_returnValue : tm_ki y_RN_returnValue b_RN_returnValue 3 none 1 := ⟨⟨kw_3, kw_422, by decide, by decide, by decide +kernel⟩, kw_421, tm_sel (n := 15) (List.mem_append_right _ (List.mem_append_left _ (List.mem_of_getElem? (i := 1) rfl)))⟩
abbrev y_RN_evaluateTrimmed : MethodName := { cls := "TrimmedMachine$Run", name := "evaluateTrimmed", desc := "(I)V" }
abbrev b_RN_evaluateTrimmed : ByteArray := prog_5_method_15_code
theorem ki_RN_evaluateTrimmed : tm_ki y_RN_evaluateTrimmed b_RN_evaluateTrimmed 2 none 1 := ⟨⟨kw_3, kw_353, by decide, by decide, by decide +kernel⟩, kw_352, tm_sel (n := 15) (List.mem_append_left _ (List.mem_of_getElem? (i := 7) rfl))⟩
abbrev y_RN_operated : MethodName := { cls := "TrimmedMachine$Run", name := "operated", desc := "(III)I" }
abbrev b_RN_operated : ByteArray := prog_5_method_19_code
theorem ks_RN_operated : tm_ks y_RN_operated b_RN_operated 3 (some .int) 3 := ⟨⟨kw_3, kw_522, by decide, by decide, by decide +kernel⟩, kw_521⟩
abbrev y_RN_lookThrough : MethodName := { cls := "TrimmedMachine$Run", name := "lookThrough", desc := "(I)I" }
abbrev b_RN_lookThrough : ByteArray := prog_5_method_21_code
theorem ki_RN_lookThrough : tm_ki y_RN_lookThrough b_RN_lookThrough 4 (some .int) 1 := ⟨⟨kw_3, kw_369, by decide, by decide, by decide +kernel⟩, kw_368, tm_sel (n := 15) (List.mem_append_left _ (List.mem_of_getElem? (i := 11) rfl))⟩
abbrev y_RN_measure : MethodName := { cls := "TrimmedMachine$Run", name := "measure", desc := "()V" }
abbrev b_RN_measure : ByteArray := prog_5_method_20_code
theorem ki_RN_measure : tm_ki y_RN_measure b_RN_measure 2 none 0 := ⟨⟨kw_3, kw_361, by decide, by decide, by decide +kernel⟩, kw_360, tm_sel (n := 15) (List.mem_append_left _ (List.mem_of_getElem? (i := 9) rfl))⟩
abbrev y_RN_start : MethodName := { cls := "TrimmedMachine$Run", name := "start", desc := "(II)V" }
abbrev b_RN_start : ByteArray := prog_5_method_2_code
theorem ki_RN_start : tm_ki y_RN_start b_RN_start 3 none 2 := ⟨⟨kw_3, kw_345, by decide, by decide, by decide +kernel⟩, kw_344, tm_sel (n := 15) (List.mem_append_left _ (List.mem_of_getElem? (i := 5) rfl))⟩
abbrev y_RN_evaluateSecond : MethodName := { cls := "TrimmedMachine$Run", name := "evaluateSecond", desc := "(II)V" }
abbrev b_RN_evaluateSecond : ByteArray := prog_5_method_9_code
theorem ki_RN_evaluateSecond : tm_ki y_RN_evaluateSecond b_RN_evaluateSecond 6 none 2 := ⟨⟨kw_3, kw_489, by decide, by decide, by decide +kernel⟩, kw_488, tm_sel (n := 15) (List.mem_append_right _ (List.mem_append_left _ (List.mem_of_getElem? (i := 11) rfl)))⟩
abbrev y_RN_end : MethodName := { cls := "TrimmedMachine$Run", name := "end", desc := "()V" }
abbrev b_RN_end : ByteArray := prog_5_method_13_code
theorem ki_RN_end : tm_ki y_RN_end b_RN_end 3 none 0 := ⟨⟨kw_3, kw_540, by decide, by decide, by decide +kernel⟩, kw_539, tm_sel (n := 15) (List.mem_append_right _ (List.mem_append_right _ (List.mem_append_left _ (List.mem_of_getElem? (i := 2) rfl))))⟩
theorem d_INT_bitCount_0 : decode b_INT_bitCount 0 = .ok (.iload_n 0, 1) := by decide +kernel
theorem d_INT_bitCount_1 : decode b_INT_bitCount 1 = .ok (.iload_n 0, 1) := by decide +kernel
theorem d_INT_bitCount_2 : decode b_INT_bitCount 2 = .ok (.iconst 1, 1) := by decide +kernel
theorem d_INT_bitCount_3 : decode b_INT_bitCount 3 = .ok (.iushr, 1) := by decide +kernel
theorem d_INT_bitCount_4 : decode b_INT_bitCount 4 = .ok (.ldc_w 265, 3) := by decide +kernel
theorem d_INT_bitCount_7 : decode b_INT_bitCount 7 = .ok (.iand, 1) := by decide +kernel
theorem d_INT_bitCount_8 : decode b_INT_bitCount 8 = .ok (.isub, 1) := by decide +kernel
theorem d_INT_bitCount_9 : decode b_INT_bitCount 9 = .ok (.istore_n 0, 1) := by decide +kernel
theorem d_INT_bitCount_10 : decode b_INT_bitCount 10 = .ok (.iload_n 0, 1) := by decide +kernel
theorem d_INT_bitCount_11 : decode b_INT_bitCount 11 = .ok (.ldc_w 266, 3) := by decide +kernel
theorem d_INT_bitCount_14 : decode b_INT_bitCount 14 = .ok (.iand, 1) := by decide +kernel
theorem d_INT_bitCount_15 : decode b_INT_bitCount 15 = .ok (.iload_n 0, 1) := by decide +kernel
theorem d_INT_bitCount_16 : decode b_INT_bitCount 16 = .ok (.iconst 2, 1) := by decide +kernel
theorem d_INT_bitCount_17 : decode b_INT_bitCount 17 = .ok (.iushr, 1) := by decide +kernel
theorem d_INT_bitCount_18 : decode b_INT_bitCount 18 = .ok (.ldc_w 266, 3) := by decide +kernel
theorem d_INT_bitCount_21 : decode b_INT_bitCount 21 = .ok (.iand, 1) := by decide +kernel
theorem d_INT_bitCount_22 : decode b_INT_bitCount 22 = .ok (.iadd, 1) := by decide +kernel
theorem d_INT_bitCount_23 : decode b_INT_bitCount 23 = .ok (.istore_n 0, 1) := by decide +kernel
theorem d_INT_bitCount_24 : decode b_INT_bitCount 24 = .ok (.iload_n 0, 1) := by decide +kernel
theorem d_INT_bitCount_25 : decode b_INT_bitCount 25 = .ok (.iload_n 0, 1) := by decide +kernel
theorem d_INT_bitCount_26 : decode b_INT_bitCount 26 = .ok (.iconst 4, 1) := by decide +kernel
theorem d_INT_bitCount_27 : decode b_INT_bitCount 27 = .ok (.iushr, 1) := by decide +kernel
theorem d_INT_bitCount_28 : decode b_INT_bitCount 28 = .ok (.iadd, 1) := by decide +kernel
theorem d_INT_bitCount_29 : decode b_INT_bitCount 29 = .ok (.ldc_w 267, 3) := by decide +kernel
theorem d_INT_bitCount_32 : decode b_INT_bitCount 32 = .ok (.iand, 1) := by decide +kernel
theorem d_INT_bitCount_33 : decode b_INT_bitCount 33 = .ok (.istore_n 0, 1) := by decide +kernel
theorem d_INT_bitCount_34 : decode b_INT_bitCount 34 = .ok (.iload_n 0, 1) := by decide +kernel
theorem d_INT_bitCount_35 : decode b_INT_bitCount 35 = .ok (.iload_n 0, 1) := by decide +kernel
theorem d_INT_bitCount_36 : decode b_INT_bitCount 36 = .ok (.bipush 8, 2) := by decide +kernel
theorem d_INT_bitCount_38 : decode b_INT_bitCount 38 = .ok (.iushr, 1) := by decide +kernel
theorem d_INT_bitCount_39 : decode b_INT_bitCount 39 = .ok (.iadd, 1) := by decide +kernel
theorem d_INT_bitCount_40 : decode b_INT_bitCount 40 = .ok (.istore_n 0, 1) := by decide +kernel
theorem d_INT_bitCount_41 : decode b_INT_bitCount 41 = .ok (.iload_n 0, 1) := by decide +kernel
theorem d_INT_bitCount_42 : decode b_INT_bitCount 42 = .ok (.iload_n 0, 1) := by decide +kernel
theorem d_INT_bitCount_43 : decode b_INT_bitCount 43 = .ok (.bipush 16, 2) := by decide +kernel
theorem d_INT_bitCount_45 : decode b_INT_bitCount 45 = .ok (.iushr, 1) := by decide +kernel
theorem d_INT_bitCount_46 : decode b_INT_bitCount 46 = .ok (.iadd, 1) := by decide +kernel
theorem d_INT_bitCount_47 : decode b_INT_bitCount 47 = .ok (.istore_n 0, 1) := by decide +kernel
theorem d_INT_bitCount_48 : decode b_INT_bitCount 48 = .ok (.iload_n 0, 1) := by decide +kernel
theorem d_INT_bitCount_49 : decode b_INT_bitCount 49 = .ok (.bipush 63, 2) := by decide +kernel
theorem d_INT_bitCount_51 : decode b_INT_bitCount 51 = .ok (.iand, 1) := by decide +kernel
theorem d_INT_bitCount_52 : decode b_INT_bitCount 52 = .ok (.ireturn, 1) := by decide +kernel
set_option maxHeartbeats 4000000 in
set_option maxRecDepth 100000 in
theorem c_INT_bitCount (l : Launch) (D : va_G) (cI cL cZ : ClassId) (ad : Nat → Nat) (x : Int32) (u : tm_SC)  : tm_I l y_INT_bitCount b_INT_bitCount 1 .int ({ frames := 0, cells := 0, slots := 0, locals := 0 } : Room) D (tm_yC cI cL cZ) (tm_wC ad cI cL cZ) [.int (x)] u (fun r u' => r = (cs_bc x) ∧ u' = u) := by
  intro sz
  refine tm_of (Qc := fun A => va_Qi (fun r u' => r = (cs_bc x) ∧ u' = u) (fun u' t => tm_B D (tm_yC cI cL cZ) A (tm_wC ad cI cL cZ u') t) A) (by decide) (Nat.le_of_ble_eq_true rfl) ?_ sz
  intro pg eg sg mg bel met cg A ls X h hl hnm
  have hx := X.1.1
  have hb := X.1.2.1
  have hl : lv_has ls 1 [(0, .int (x))] := hl
  refine lv_iload_n hx hb d_INT_bitCount_0 rfl (lv_at hl 0 rfl) ?_
  refine lv_iload_n hx hb d_INT_bitCount_1 rfl (lv_at hl 0 rfl) ?_
  refine lv_iconst (v := 1) hx hb d_INT_bitCount_2 (by decide) ?_
  refine lv_iushr hx hb d_INT_bitCount_3 rfl ?_
  refine lv_ldcw (v := 1431655765) hx hb X.1.2.2.2.1 (X.1.2.2.2.2 _ kw_392) d_INT_bitCount_4 ?_
  refine lv_iand hx hb d_INT_bitCount_7 ?_
  refine lv_isub hx hb d_INT_bitCount_8 ?_
  refine tm_top (y := cs_b1 x) (rfl) ?_
  refine lv_istore_n hx hb d_INT_bitCount_9 rfl hl (by decide) rfl (fun ls (hl : lv_has ls 1 [(0, .int (cs_b1 x))]) => ?_)
  refine lv_iload_n hx hb d_INT_bitCount_10 rfl (lv_at hl 0 rfl) ?_
  refine lv_ldcw (v := 858993459) hx hb X.1.2.2.2.1 (X.1.2.2.2.2 _ kw_393) d_INT_bitCount_11 ?_
  refine lv_iand hx hb d_INT_bitCount_14 ?_
  refine lv_iload_n hx hb d_INT_bitCount_15 rfl (lv_at hl 0 rfl) ?_
  refine lv_iconst (v := 2) hx hb d_INT_bitCount_16 (by decide) ?_
  refine lv_iushr hx hb d_INT_bitCount_17 rfl ?_
  refine lv_ldcw (v := 858993459) hx hb X.1.2.2.2.1 (X.1.2.2.2.2 _ kw_393) d_INT_bitCount_18 ?_
  refine lv_iand hx hb d_INT_bitCount_21 ?_
  refine lv_iadd hx hb d_INT_bitCount_22 ?_
  refine tm_top (y := cs_b2 (cs_b1 x)) (rfl) ?_
  refine lv_istore_n hx hb d_INT_bitCount_23 rfl hl (by decide) rfl (fun ls (hl : lv_has ls 1 [(0, .int (cs_b2 (cs_b1 x)))]) => ?_)
  refine lv_iload_n hx hb d_INT_bitCount_24 rfl (lv_at hl 0 rfl) ?_
  refine lv_iload_n hx hb d_INT_bitCount_25 rfl (lv_at hl 0 rfl) ?_
  refine lv_iconst (v := 4) hx hb d_INT_bitCount_26 (by decide) ?_
  refine lv_iushr hx hb d_INT_bitCount_27 rfl ?_
  refine lv_iadd hx hb d_INT_bitCount_28 ?_
  refine lv_ldcw (v := 252645135) hx hb X.1.2.2.2.1 (X.1.2.2.2.2 _ kw_394) d_INT_bitCount_29 ?_
  refine lv_iand hx hb d_INT_bitCount_32 ?_
  refine tm_top (y := cs_b3 (cs_b2 (cs_b1 x))) (rfl) ?_
  refine lv_istore_n hx hb d_INT_bitCount_33 rfl hl (by decide) rfl (fun ls (hl : lv_has ls 1 [(0, .int (cs_b3 (cs_b2 (cs_b1 x))))]) => ?_)
  refine lv_iload_n hx hb d_INT_bitCount_34 rfl (lv_at hl 0 rfl) ?_
  refine lv_iload_n hx hb d_INT_bitCount_35 rfl (lv_at hl 0 rfl) ?_
  refine lv_bipush (v := 8) hx hb d_INT_bitCount_36 (by decide) ?_
  refine lv_iushr hx hb d_INT_bitCount_38 rfl ?_
  refine lv_iadd hx hb d_INT_bitCount_39 ?_
  refine tm_top (y := cs_b4 (cs_b3 (cs_b2 (cs_b1 x)))) (rfl) ?_
  refine lv_istore_n hx hb d_INT_bitCount_40 rfl hl (by decide) rfl (fun ls (hl : lv_has ls 1 [(0, .int (cs_b4 (cs_b3 (cs_b2 (cs_b1 x)))))]) => ?_)
  refine lv_iload_n hx hb d_INT_bitCount_41 rfl (lv_at hl 0 rfl) ?_
  refine lv_iload_n hx hb d_INT_bitCount_42 rfl (lv_at hl 0 rfl) ?_
  refine lv_bipush (v := 16) hx hb d_INT_bitCount_43 (by decide) ?_
  refine lv_iushr hx hb d_INT_bitCount_45 rfl ?_
  refine lv_iadd hx hb d_INT_bitCount_46 ?_
  refine tm_top (y := cs_b5 (cs_b4 (cs_b3 (cs_b2 (cs_b1 x))))) (rfl) ?_
  refine lv_istore_n hx hb d_INT_bitCount_47 rfl hl (by decide) rfl (fun ls (hl : lv_has ls 1 [(0, .int (cs_b5 (cs_b4 (cs_b3 (cs_b2 (cs_b1 x))))))]) => ?_)
  refine lv_iload_n hx hb d_INT_bitCount_48 rfl (lv_at hl 0 rfl) ?_
  refine lv_bipush (v := 63) hx hb d_INT_bitCount_49 (by decide) ?_
  refine lv_iand hx hb d_INT_bitCount_51 ?_
  exact tm_iret (w := tm_wC ad cI cL cZ) (u := u) X h (⟨rfl, rfl⟩) d_INT_bitCount_52
theorem d_RN_freeIn_0 : decode b_RN_freeIn 0 = .ok (.aload_n 0, 1) := by decide +kernel
theorem d_RN_freeIn_1 : decode b_RN_freeIn 1 = .ok (.getfield 36, 3) := by decide +kernel
theorem d_RN_freeIn_4 : decode b_RN_freeIn 4 = .ok (.getfield 216, 3) := by decide +kernel
theorem d_RN_freeIn_7 : decode b_RN_freeIn 7 = .ok (.iload_n 1, 1) := by decide +kernel
theorem d_RN_freeIn_8 : decode b_RN_freeIn 8 = .ok (.iaload, 1) := by decide +kernel
theorem d_RN_freeIn_9 : decode b_RN_freeIn 9 = .ok (.ireturn, 1) := by decide +kernel
set_option maxHeartbeats 4000000 in
set_option maxRecDepth 100000 in
theorem c_RN_freeIn (l : Launch) (D : va_G) (cI cL cZ : ClassId) (ad : Nat → Nat) (e : Nat) (u : tm_SC) (he : e < 100) : tm_I l y_RN_freeIn b_RN_freeIn 2 .int ({ frames := 0, cells := 0, slots := 0, locals := 0 } : Room) D (tm_yC cI cL cZ) (tm_wC ad cI cL cZ) [.ref (ad 8), .int (nI e)] u (fun r u' => r = (u.2.1 4 e) ∧ u' = u) := by
  intro sz
  refine tm_of (Qc := fun A => va_Qi (fun r u' => r = (u.2.1 4 e) ∧ u' = u) (fun u' t => tm_B D (tm_yC cI cL cZ) A (tm_wC ad cI cL cZ u') t) A) (by decide) (Nat.le_of_ble_eq_true rfl) ?_ sz
  intro pg eg sg mg bel met cg A ls X h hl hnm
  have hx := X.1.1
  have hb := X.1.2.1
  have hl : lv_has ls 2 [(0, .ref (ad 8)), (1, .int (nI e))] := hl
  refine lv_aload_n hx hb d_RN_freeIn_0 rfl (lv_at hl 0 rfl) ?_
  refine tm_get X h uw_RN 8 rfl rfl 0 (by decide) kw_111 rfl rfl d_RN_freeIn_1 ?_
  refine tm_getN X h uw_EX 1 rfl rfl 4 (by decide) kw_46 rfl rfl d_RN_freeIn_4 ?_
  refine lv_iload_n hx hb d_RN_freeIn_7 rfl (lv_at hl 1 rfl) ?_
  refine tm_iald X h 6 0 rfl rfl (e) (by omega) (rfl) (by decide) d_RN_freeIn_8 ?_
  exact tm_iret (w := tm_wC ad cI cL cZ) (u := u) X h (⟨rfl, rfl⟩) d_RN_freeIn_9
theorem d_RN_returnValue_0 : decode b_RN_returnValue 0 = .ok (.aload_n 0, 1) := by decide +kernel
theorem d_RN_returnValue_1 : decode b_RN_returnValue 1 = .ok (.iconst 0, 1) := by decide +kernel
theorem d_RN_returnValue_2 : decode b_RN_returnValue 2 = .ok (.putfield 63, 3) := by decide +kernel
theorem d_RN_returnValue_5 : decode b_RN_returnValue 5 = .ok (.aload_n 0, 1) := by decide +kernel
theorem d_RN_returnValue_6 : decode b_RN_returnValue 6 = .ok (.getfield 12, 3) := by decide +kernel
theorem d_RN_returnValue_9 : decode b_RN_returnValue 9 = .ok (.iconst 0, 1) := by decide +kernel
theorem d_RN_returnValue_10 : decode b_RN_returnValue 10 = .ok (.lload_n 1, 1) := by decide +kernel
theorem d_RN_returnValue_11 : decode b_RN_returnValue 11 = .ok (.invokevirtual 184, 3) := by decide +kernel
theorem d_RN_returnValue_14 : decode b_RN_returnValue 14 = .ok (.return_, 1) := by decide +kernel
set_option maxHeartbeats 4000000 in
set_option maxRecDepth 100000 in
theorem c_RN_returnValue (l : Launch) (D : va_G) (cI cL cZ : ClassId) (ad : Nat → Nat) (x : Int64) (u : tm_SC)  : tm_V l y_RN_returnValue b_RN_returnValue 3 ({ frames := 2, cells := 0, slots := 0, locals := 47 } : Room) D (tm_yC cI cL cZ) (tm_wC ad cI cL cZ) [.ref (ad 8), .long (x)] u (fun u' => u' = (cs_ret u x)) := by
  intro sz
  refine tm_of (Qc := fun A => va_Qv (fun u' => u' = (cs_ret u x)) (fun u' t => tm_B D (tm_yC cI cL cZ) A (tm_wC ad cI cL cZ u') t) A) (by decide) (Nat.le_of_ble_eq_true rfl) ?_ sz
  intro pg eg sg mg bel met cg A ls X h hl hnm
  have hx := X.1.1
  have hb := X.1.2.1
  have hl : lv_has ls 3 [(0, .ref (ad 8)), (1, .long (x))] := hl
  refine lv_aload_n hx hb d_RN_returnValue_0 rfl (lv_at hl 0 rfl) ?_
  refine lv_iconst (v := 0) hx hb d_RN_returnValue_1 (by decide) ?_
  refine tm_put X h uw_RN t_RN t_RN_ok n_RN 8 rfl rfl 11 (by decide) kw_128 rfl rfl (rfl) (rfl) (Nat.le_of_ble_eq_true rfl) (ws' := tm_wC ad cI cL cZ (tm_sf u 6 (0))) rfl d_RN_returnValue_2 (fun H locs h => ?_)
  refine lv_aload_n hx hb d_RN_returnValue_5 rfl (lv_at hl 0 rfl) ?_
  refine tm_get X h uw_RN 8 rfl rfl 1 (by decide) kw_112 rfl rfl d_RN_returnValue_6 ?_
  refine lv_iconst (v := 0) hx hb d_RN_returnValue_9 (by decide) ?_
  refine lv_lload_n hx hb d_RN_returnValue_10 rfl (lv_at hl 1 rfl) ?_
  refine tm_cVf X h (tm_rVN (q0 := 11) X h (c_RW_setSingle l D cI cL cZ ad (0) (x) (tm_sf u 6 (0)) (by decide) _) ki_RW_setSingle kw_423 rfl rfl rfl rfl rfl ⟨by decide, by decide⟩ rfl hl.1 rfl (Nat.le_of_ble_eq_true rfl) d_RN_returnValue_11 ⟨by decide, by decide⟩) (fun H locs h => ?_)
  exact tm_vret (w := tm_wC ad cI cL cZ) (u := (cs_set1 (tm_sf u 6 (0)) (0) (x))) X h (rfl) d_RN_returnValue_14
theorem d_RN_evaluateTrimmed_0 : decode b_RN_evaluateTrimmed 0 = .ok (.aload_n 0, 1) := by decide +kernel
theorem d_RN_evaluateTrimmed_1 : decode b_RN_evaluateTrimmed 1 = .ok (.iconst 1, 1) := by decide +kernel
theorem d_RN_evaluateTrimmed_2 : decode b_RN_evaluateTrimmed 2 = .ok (.putfield 63, 3) := by decide +kernel
theorem d_RN_evaluateTrimmed_5 : decode b_RN_evaluateTrimmed 5 = .ok (.aload_n 0, 1) := by decide +kernel
theorem d_RN_evaluateTrimmed_6 : decode b_RN_evaluateTrimmed 6 = .ok (.iload_n 1, 1) := by decide +kernel
theorem d_RN_evaluateTrimmed_7 : decode b_RN_evaluateTrimmed 7 = .ok (.putfield 88, 3) := by decide +kernel
theorem d_RN_evaluateTrimmed_10 : decode b_RN_evaluateTrimmed 10 = .ok (.aload_n 0, 1) := by decide +kernel
theorem d_RN_evaluateTrimmed_11 : decode b_RN_evaluateTrimmed 11 = .ok (.getfield 12, 3) := by decide +kernel
theorem d_RN_evaluateTrimmed_14 : decode b_RN_evaluateTrimmed 14 = .ok (.iconst 0, 1) := by decide +kernel
theorem d_RN_evaluateTrimmed_15 : decode b_RN_evaluateTrimmed 15 = .ok (.aload_n 0, 1) := by decide +kernel
theorem d_RN_evaluateTrimmed_16 : decode b_RN_evaluateTrimmed 16 = .ok (.iload_n 1, 1) := by decide +kernel
theorem d_RN_evaluateTrimmed_17 : decode b_RN_evaluateTrimmed 17 = .ok (.invokevirtual 112, 3) := by decide +kernel
theorem d_RN_evaluateTrimmed_20 : decode b_RN_evaluateTrimmed 20 = .ok (.invokevirtual 52, 3) := by decide +kernel
theorem d_RN_evaluateTrimmed_23 : decode b_RN_evaluateTrimmed 23 = .ok (.return_, 1) := by decide +kernel
set_option maxHeartbeats 4000000 in
set_option maxRecDepth 100000 in
theorem c_RN_evaluateTrimmed (l : Launch) (D : va_G) (cI cL cZ : ClassId) (ad : Nat → Nat) (e : Nat) (u : tm_SC) (he : e < 100) : tm_V l y_RN_evaluateTrimmed b_RN_evaluateTrimmed 2 ({ frames := 1, cells := 0, slots := 0, locals := 22 } : Room) D (tm_yC cI cL cZ) (tm_wC ad cI cL cZ) [.ref (ad 8), .int (nI e)] u (fun u' => u' = (cs_ev u e)) := by
  intro sz
  refine tm_of (Qc := fun A => va_Qv (fun u' => u' = (cs_ev u e)) (fun u' t => tm_B D (tm_yC cI cL cZ) A (tm_wC ad cI cL cZ u') t) A) (by decide) (Nat.le_of_ble_eq_true rfl) ?_ sz
  intro pg eg sg mg bel met cg A ls X h hl hnm
  have hx := X.1.1
  have hb := X.1.2.1
  have hl : lv_has ls 2 [(0, .ref (ad 8)), (1, .int (nI e))] := hl
  refine lv_aload_n hx hb d_RN_evaluateTrimmed_0 rfl (lv_at hl 0 rfl) ?_
  refine lv_iconst (v := 1) hx hb d_RN_evaluateTrimmed_1 (by decide) ?_
  refine tm_put X h uw_RN t_RN t_RN_ok n_RN 8 rfl rfl 11 (by decide) kw_128 rfl rfl (rfl) (rfl) (Nat.le_of_ble_eq_true rfl) (ws' := tm_wC ad cI cL cZ (tm_sf u 6 (1))) rfl d_RN_evaluateTrimmed_2 (fun H locs h => ?_)
  refine lv_aload_n hx hb d_RN_evaluateTrimmed_5 rfl (lv_at hl 0 rfl) ?_
  refine lv_iload_n hx hb d_RN_evaluateTrimmed_6 rfl (lv_at hl 1 rfl) ?_
  refine tm_put X h uw_RN t_RN t_RN_ok n_RN 8 rfl rfl 12 (by decide) kw_129 rfl rfl (rfl) (rfl) (Nat.le_of_ble_eq_true rfl) (ws' := tm_wC ad cI cL cZ (tm_sf (tm_sf u 6 (1)) 7 (nI e))) rfl d_RN_evaluateTrimmed_7 (fun H locs h => ?_)
  refine lv_aload_n hx hb d_RN_evaluateTrimmed_10 rfl (lv_at hl 0 rfl) ?_
  refine tm_get X h uw_RN 8 rfl rfl 1 (by decide) kw_112 rfl rfl d_RN_evaluateTrimmed_11 ?_
  refine lv_iconst (v := 0) hx hb d_RN_evaluateTrimmed_14 (by decide) ?_
  refine lv_aload_n hx hb d_RN_evaluateTrimmed_15 rfl (lv_at hl 0 rfl) ?_
  refine lv_iload_n hx hb d_RN_evaluateTrimmed_16 rfl (lv_at hl 1 rfl) ?_
  refine tm_cIf X h (tm_rV (q0 := 8) X h (c_RN_freeIn l D cI cL cZ ad (e) (tm_sf (tm_sf u 6 (1)) 7 (nI e)) (he) _) ki_RN_freeIn kw_354 rfl rfl rfl rfl rfl ⟨by decide, by decide⟩ rfl hl.1 rfl (Nat.le_of_ble_eq_true rfl) d_RN_evaluateTrimmed_17 ⟨by decide, by decide⟩) (fun H locs h => ?_)
  refine tm_cVf X h (tm_rVN (q0 := 11) X h (c_RW_trim l D cI cL cZ ad (0) (((tm_sf (tm_sf u 6 (1)) 7 (nI e)).2.1 4 (e))) (tm_sf (tm_sf u 6 (1)) 7 (nI e)) (by decide) _) ki_RW_trim kw_346 rfl rfl rfl rfl rfl ⟨by decide, by decide⟩ rfl hl.1 rfl (Nat.le_of_ble_eq_true rfl) d_RN_evaluateTrimmed_20 ⟨by decide, by decide⟩) (fun H locs h => ?_)
  exact tm_vret (w := tm_wC ad cI cL cZ) (u := (cs_trim (tm_sf (tm_sf u 6 (1)) 7 (nI e)) (0) (((tm_sf (tm_sf u 6 (1)) 7 (nI e)).2.1 4 (e))))) X h (rfl) d_RN_evaluateTrimmed_23
theorem d_RN_operated_0 : decode b_RN_operated 0 = .ok (.iload_n 0, 1) := by decide +kernel
theorem d_RN_operated_1 : decode b_RN_operated 1 = .ok (.tableswitch 39 0 2 #[27, 31, 35], 27) := by decide +kernel
theorem d_RN_operated_28 : decode b_RN_operated 28 = .ok (.iload_n 1, 1) := by decide +kernel
theorem d_RN_operated_29 : decode b_RN_operated 29 = .ok (.iload_n 2, 1) := by decide +kernel
theorem d_RN_operated_30 : decode b_RN_operated 30 = .ok (.iadd, 1) := by decide +kernel
theorem d_RN_operated_31 : decode b_RN_operated 31 = .ok (.ireturn, 1) := by decide +kernel
theorem d_RN_operated_32 : decode b_RN_operated 32 = .ok (.iload_n 1, 1) := by decide +kernel
theorem d_RN_operated_33 : decode b_RN_operated 33 = .ok (.iload_n 2, 1) := by decide +kernel
theorem d_RN_operated_34 : decode b_RN_operated 34 = .ok (.isub, 1) := by decide +kernel
theorem d_RN_operated_35 : decode b_RN_operated 35 = .ok (.ireturn, 1) := by decide +kernel
theorem d_RN_operated_36 : decode b_RN_operated 36 = .ok (.iload_n 1, 1) := by decide +kernel
theorem d_RN_operated_37 : decode b_RN_operated 37 = .ok (.iload_n 2, 1) := by decide +kernel
theorem d_RN_operated_38 : decode b_RN_operated 38 = .ok (.imul, 1) := by decide +kernel
theorem d_RN_operated_39 : decode b_RN_operated 39 = .ok (.ireturn, 1) := by decide +kernel
theorem d_RN_operated_40 : decode b_RN_operated 40 = .ok (.iload_n 1, 1) := by decide +kernel
theorem d_RN_operated_41 : decode b_RN_operated 41 = .ok (.iload_n 2, 1) := by decide +kernel
theorem d_RN_operated_42 : decode b_RN_operated 42 = .ok (.if_icmp .ge 7, 3) := by decide +kernel
theorem d_RN_operated_45 : decode b_RN_operated 45 = .ok (.iconst 1, 1) := by decide +kernel
theorem d_RN_operated_46 : decode b_RN_operated 46 = .ok (.goto 4, 3) := by decide +kernel
theorem d_RN_operated_49 : decode b_RN_operated 49 = .ok (.iconst 0, 1) := by decide +kernel
theorem d_RN_operated_50 : decode b_RN_operated 50 = .ok (.ireturn, 1) := by decide +kernel
set_option maxHeartbeats 4000000 in
set_option maxRecDepth 100000 in
theorem c_RN_operated (l : Launch) (D : va_G) (cI cL cZ : ClassId) (ad : Nat → Nat) (o : Int32) (a : Int32) (b : Int32) (u : tm_SC)  : tm_I l y_RN_operated b_RN_operated 3 .int ({ frames := 0, cells := 0, slots := 0, locals := 0 } : Room) D (tm_yC cI cL cZ) (tm_wC ad cI cL cZ) [.int (o), .int (a), .int (b)] u (fun r u' => r = (cs_opd o a b) ∧ u' = u) := by
  intro sz
  refine tm_of (Qc := fun A => va_Qi (fun r u' => r = (cs_opd o a b) ∧ u' = u) (fun u' t => tm_B D (tm_yC cI cL cZ) A (tm_wC ad cI cL cZ u') t) A) (by decide) (Nat.le_of_ble_eq_true rfl) ?_ sz
  intro pg eg sg mg bel met cg A ls X h hl hnm
  have hx := X.1.1
  have hb := X.1.2.1
  have hl : lv_has ls 3 [(0, .int (o)), (1, .int (a)), (2, .int (b))] := hl
  refine lv_iload_n hx hb d_RN_operated_0 rfl (lv_at hl 0 rfl) ?_
  by_cases q1_0 : o = 0
  · refine tm_sw 0 q1_0 hx hb d_RN_operated_1 (tgt := 28) (by decide) (by decide) rfl rfl ?_
    refine lv_iload_n hx hb d_RN_operated_28 rfl (lv_at hl 1 rfl) ?_
    refine lv_iload_n hx hb d_RN_operated_29 rfl (lv_at hl 2 rfl) ?_
    refine lv_iadd hx hb d_RN_operated_30 ?_
    exact tm_iret (w := tm_wC ad cI cL cZ) (u := u) X h (⟨(if_pos q1_0).symm, rfl⟩) d_RN_operated_31
  by_cases q1_1 : o = 1
  · refine tm_sw 1 q1_1 hx hb d_RN_operated_1 (tgt := 32) (by decide) (by decide) rfl rfl ?_
    refine lv_iload_n hx hb d_RN_operated_32 rfl (lv_at hl 1 rfl) ?_
    refine lv_iload_n hx hb d_RN_operated_33 rfl (lv_at hl 2 rfl) ?_
    refine lv_isub hx hb d_RN_operated_34 ?_
    exact tm_iret (w := tm_wC ad cI cL cZ) (u := u) X h (⟨by unfold cs_opd; rw [if_neg q1_0, if_pos q1_1], rfl⟩) d_RN_operated_35
  by_cases q1_2 : o = 2
  · refine tm_sw 2 q1_2 hx hb d_RN_operated_1 (tgt := 36) (by decide) (by decide) rfl rfl ?_
    refine lv_iload_n hx hb d_RN_operated_36 rfl (lv_at hl 1 rfl) ?_
    refine lv_iload_n hx hb d_RN_operated_37 rfl (lv_at hl 2 rfl) ?_
    refine lv_imul hx hb d_RN_operated_38 ?_
    exact tm_iret (w := tm_wC ad cI cL cZ) (u := u) X h (⟨by unfold cs_opd; rw [if_neg q1_0, if_neg q1_1, if_pos q1_2], rfl⟩) d_RN_operated_39
  refine lv_tableOut hx hb d_RN_operated_1 (tm_swo3 q1_0 q1_1 q1_2) (tgt := 40) rfl ?_
  refine lv_iload_n hx hb d_RN_operated_40 rfl (lv_at hl 1 rfl) ?_
  refine lv_iload_n hx hb d_RN_operated_41 rfl (lv_at hl 2 rfl) ?_
  refine lv_icmp_ge hx hb d_RN_operated_42 (tgt := 49) rfl (fun h42t => ?_) (fun h42f => ?_)
  · refine lv_iconst (v := 0) hx hb d_RN_operated_49 (by decide) ?_
    exact tm_iret (w := tm_wC ad cI cL cZ) (u := u) X h (⟨by unfold cs_opd; rw [if_neg q1_0, if_neg q1_1, if_neg q1_2, if_neg (Int32.not_lt.mpr h42t)], rfl⟩) d_RN_operated_50
  · refine lv_iconst (v := 1) hx hb d_RN_operated_45 (by decide) ?_
    refine lv_goto hx hb d_RN_operated_46 (tgt := 50) rfl ?_
    exact tm_iret (w := tm_wC ad cI cL cZ) (u := u) X h (⟨by unfold cs_opd; rw [if_neg q1_0, if_neg q1_1, if_neg q1_2, if_pos (Int32.not_le.mp h42f)], rfl⟩) d_RN_operated_50
theorem d_RN_lookThrough_0 : decode b_RN_lookThrough 0 = .ok (.aload_n 0, 1) := by decide +kernel
theorem d_RN_lookThrough_1 : decode b_RN_lookThrough 1 = .ok (.getfield 12, 3) := by decide +kernel
theorem d_RN_lookThrough_4 : decode b_RN_lookThrough 4 = .ok (.getfield 238, 3) := by decide +kernel
theorem d_RN_lookThrough_7 : decode b_RN_lookThrough 7 = .ok (.iload_n 1, 1) := by decide +kernel
theorem d_RN_lookThrough_8 : decode b_RN_lookThrough 8 = .ok (.iaload, 1) := by decide +kernel
theorem d_RN_lookThrough_9 : decode b_RN_lookThrough 9 = .ok (.istore_n 2, 1) := by decide +kernel
theorem d_RN_lookThrough_10 : decode b_RN_lookThrough 10 = .ok (.iconst 0, 1) := by decide +kernel
theorem d_RN_lookThrough_11 : decode b_RN_lookThrough 11 = .ok (.istore_n 3, 1) := by decide +kernel
theorem d_RN_lookThrough_12 : decode b_RN_lookThrough 12 = .ok (.iload_n 3, 1) := by decide +kernel
theorem d_RN_lookThrough_13 : decode b_RN_lookThrough 13 = .ok (.bipush 8, 2) := by decide +kernel
theorem d_RN_lookThrough_15 : decode b_RN_lookThrough 15 = .ok (.if_icmp .ge 61, 3) := by decide +kernel
theorem d_RN_lookThrough_18 : decode b_RN_lookThrough 18 = .ok (.iload_n 2, 1) := by decide +kernel
theorem d_RN_lookThrough_19 : decode b_RN_lookThrough 19 = .ok (.iload_n 3, 1) := by decide +kernel
theorem d_RN_lookThrough_20 : decode b_RN_lookThrough 20 = .ok (.iushr, 1) := by decide +kernel
theorem d_RN_lookThrough_21 : decode b_RN_lookThrough 21 = .ok (.ifCond .eq 55, 3) := by decide +kernel
theorem d_RN_lookThrough_24 : decode b_RN_lookThrough 24 = .ok (.aload_n 0, 1) := by decide +kernel
theorem d_RN_lookThrough_25 : decode b_RN_lookThrough 25 = .ok (.getfield 12, 3) := by decide +kernel
theorem d_RN_lookThrough_28 : decode b_RN_lookThrough 28 = .ok (.iload_n 1, 1) := by decide +kernel
theorem d_RN_lookThrough_29 : decode b_RN_lookThrough 29 = .ok (.iload_n 3, 1) := by decide +kernel
theorem d_RN_lookThrough_30 : decode b_RN_lookThrough 30 = .ok (.invokevirtual 123, 3) := by decide +kernel
theorem d_RN_lookThrough_33 : decode b_RN_lookThrough 33 = .ok (.ifCond .eq 37, 3) := by decide +kernel
theorem d_RN_lookThrough_36 : decode b_RN_lookThrough 36 = .ok (.aload_n 0, 1) := by decide +kernel
theorem d_RN_lookThrough_37 : decode b_RN_lookThrough 37 = .ok (.getfield 12, 3) := by decide +kernel
theorem d_RN_lookThrough_40 : decode b_RN_lookThrough 40 = .ok (.iload_n 1, 1) := by decide +kernel
theorem d_RN_lookThrough_41 : decode b_RN_lookThrough 41 = .ok (.iload_n 3, 1) := by decide +kernel
theorem d_RN_lookThrough_42 : decode b_RN_lookThrough 42 = .ok (.invokevirtual 134, 3) := by decide +kernel
theorem d_RN_lookThrough_45 : decode b_RN_lookThrough 45 = .ok (.invokestatic 203, 3) := by decide +kernel
theorem d_RN_lookThrough_48 : decode b_RN_lookThrough 48 = .ok (.ifCond .eq 22, 3) := by decide +kernel
theorem d_RN_lookThrough_51 : decode b_RN_lookThrough 51 = .ok (.aload_n 0, 1) := by decide +kernel
theorem d_RN_lookThrough_52 : decode b_RN_lookThrough 52 = .ok (.getfield 21, 3) := by decide +kernel
theorem d_RN_lookThrough_55 : decode b_RN_lookThrough 55 = .ok (.aload_n 0, 1) := by decide +kernel
theorem d_RN_lookThrough_56 : decode b_RN_lookThrough 56 = .ok (.getfield 12, 3) := by decide +kernel
theorem d_RN_lookThrough_59 : decode b_RN_lookThrough 59 = .ok (.iload_n 1, 1) := by decide +kernel
theorem d_RN_lookThrough_60 : decode b_RN_lookThrough 60 = .ok (.iload_n 3, 1) := by decide +kernel
theorem d_RN_lookThrough_61 : decode b_RN_lookThrough 61 = .ok (.invokevirtual 134, 3) := by decide +kernel
theorem d_RN_lookThrough_64 : decode b_RN_lookThrough 64 = .ok (.invokestatic 210, 3) := by decide +kernel
theorem d_RN_lookThrough_67 : decode b_RN_lookThrough 67 = .ok (.invokevirtual 241, 3) := by decide +kernel
theorem d_RN_lookThrough_70 : decode b_RN_lookThrough 70 = .ok (.iinc 3 1, 3) := by decide +kernel
theorem d_RN_lookThrough_73 : decode b_RN_lookThrough 73 = .ok (.goto (-61), 3) := by decide +kernel
theorem d_RN_lookThrough_76 : decode b_RN_lookThrough 76 = .ok (.iload_n 2, 1) := by decide +kernel
theorem d_RN_lookThrough_77 : decode b_RN_lookThrough 77 = .ok (.invokestatic 244, 3) := by decide +kernel
theorem d_RN_lookThrough_80 : decode b_RN_lookThrough 80 = .ok (.ireturn, 1) := by decide +kernel
set_option maxHeartbeats 4000000 in
set_option maxRecDepth 100000 in
theorem c_RN_lookThrough (l : Launch) (D : va_G) (cI cL cZ : ClassId) (ad : Nat → Nat) (i : Nat) (L : Nat → Prop) (u : tm_SC) (hi : i < 241) (hr : cs_row u L i) (hL : cs_LL u L) : tm_I l y_RN_lookThrough b_RN_lookThrough 4 .int ({ frames := 1, cells := 0, slots := 0, locals := 22 } : Room) D (tm_yC cI cL cZ) (tm_wC ad cI cL cZ) [.ref (ad 8), .int (nI i)] u (fun r u' => r = (cs_bc (u.2.1 8 i)) ∧ u' = (cs_look u i 8)) := by
  intro sz
  refine tm_of (Qc := fun A => va_Qi (fun r u' => r = (cs_bc (u.2.1 8 i)) ∧ u' = (cs_look u i 8)) (fun u' t => tm_B D (tm_yC cI cL cZ) A (tm_wC ad cI cL cZ u') t) A) (by decide) (Nat.le_of_ble_eq_true rfl) ?_ sz
  intro pg eg sg mg bel met cg A ls X h hl hnm
  have hx := X.1.1
  have hb := X.1.2.1
  have hl : lv_has ls 4 [(0, .ref (ad 8)), (1, .int (nI i))] := hl
  refine lv_aload_n hx hb d_RN_lookThrough_0 rfl (lv_at hl 0 rfl) ?_
  refine tm_get X h uw_RN 8 rfl rfl 1 (by decide) kw_112 rfl rfl d_RN_lookThrough_1 ?_
  refine tm_getN X h uw_RW 11 rfl rfl 0 (by decide) kw_79 rfl rfl d_RN_lookThrough_4 ?_
  refine lv_iload_n hx hb d_RN_lookThrough_7 rfl (lv_at hl 1 rfl) ?_
  refine tm_iald X h 12 0 rfl rfl (i) (by omega) (rfl) (by decide) d_RN_lookThrough_8 ?_
  refine lv_istore_n hx hb d_RN_lookThrough_9 rfl hl (by decide) rfl (fun ls (hl : lv_has ls 4 [(2, .int (((u).2.1 8 (i)))), (0, .ref (ad 8)), (1, .int (nI i))]) => ?_)
  refine lv_iconst (v := 0) hx hb d_RN_lookThrough_10 (by decide) ?_
  refine lv_istore_n hx hb d_RN_lookThrough_11 rfl hl (by decide) rfl (fun ls (hl : lv_has ls 4 [(3, .int (0)), (2, .int (((u).2.1 8 (i)))), (0, .ref (ad 8)), (1, .int (nI i))]) => ?_)
  have lp12 : ∀ (nf : Nat) (k : Nat) (H : Heap) (locs : List Loc) (ls : Array Slot), 8 - k < nf → (k ≤ 8) → tm_H D A sg (tm_wC ad cI cL cZ (cs_look u i k)) H locs → lv_has ls 4 [(0, .ref (ad 8)), (1, .int (nI i)), (2, .int (u.2.1 8 i)), (3, .int (nI k))] → W pg l eg ({ frames := 1, cells := 0, slots := 0, locals := 22 } : Room) sg mg ([.ref (ad 8), .int (nI i)] : List Value).toArray bel met cg H locs 0 0 (MQ bel (va_Qi (fun r u' => r = (cs_bc (u.2.1 8 i)) ∧ u' = (cs_look u i 8)) (fun u' t => tm_B D (tm_yC cI cL cZ) A (tm_wC ad cI cL cZ u') t) A) ([.ref (ad 8), .int (nI i)] : List Value).toArray sg 0 0 A) (F0 mg 12 ls []) := by
    intro nf
    induction nf with
    | zero => intro k H locs ls hm; exact absurd hm (Nat.not_lt_zero _)
    | succ nf ih =>
      intro k H locs ls hm hk h hl
      refine lv_iload_n hx hb d_RN_lookThrough_12 rfl (lv_at hl 3 rfl) ?_
      refine lv_bipush (v := 8) hx hb d_RN_lookThrough_13 (by decide) ?_
      refine lv_icmp_ge hx hb d_RN_lookThrough_15 (tgt := 76) rfl (fun h15t => ?_) (fun h15f => ?_)
      · refine lv_iload_n hx hb d_RN_lookThrough_76 rfl (lv_at hl 2 rfl) ?_
        refine tm_cIf X h (tm_rS X h (c_INT_bitCount l D cI cL cZ ad (u.2.1 8 i) (cs_look u i k)  _) ks_INT_bitCount kw_389 rfl rfl ⟨by decide, by decide⟩ rfl hl.1 rfl (Nat.le_of_ble_eq_true rfl) d_RN_lookThrough_77 ⟨by decide, by decide⟩) (fun H locs h => ?_)
        exact tm_iret (w := tm_wC ad cI cL cZ) (u := (cs_look u i k)) X h (⟨rfl, by rw [show k = 8 by have := (nI_leI (a := 8) (by decide) (by omega)).mp h15t; omega]⟩) d_RN_lookThrough_80
      · have h15 : k < 8 := by have : ¬ 8 ≤ k := fun q => h15f ((nI_leI (a := 8) (by decide) (by omega)).mpr q); omega
        refine lv_iload_n hx hb d_RN_lookThrough_18 rfl (lv_at hl 2 rfl) ?_
        refine lv_iload_n hx hb d_RN_lookThrough_19 rfl (lv_at hl 3 rfl) ?_
        refine lv_iushr hx hb d_RN_lookThrough_20 rfl ?_
        refine lv_if_eq hx hb d_RN_lookThrough_21 (tgt := 76) rfl (fun h21t => ?_) (fun h21f => ?_)
        · refine lv_iload_n hx hb d_RN_lookThrough_76 rfl (lv_at hl 2 rfl) ?_
          refine tm_cIf X h (tm_rS X h (c_INT_bitCount l D cI cL cZ ad (u.2.1 8 i) (cs_look u i k)  _) ks_INT_bitCount kw_389 rfl rfl ⟨by decide, by decide⟩ rfl hl.1 rfl (Nat.le_of_ble_eq_true rfl) d_RN_lookThrough_77 ⟨by decide, by decide⟩) (fun H locs h => ?_)
          exact tm_iret (w := tm_wC ad cI cL cZ) (u := (cs_look u i k)) X h (⟨rfl, cs_look_stop hr.1 h15 h21t 8 (by omega) (Nat.le_refl _)⟩) d_RN_lookThrough_80
        · refine lv_aload_n hx hb d_RN_lookThrough_24 rfl (lv_at hl 0 rfl) ?_
          refine tm_get X h uw_RN 8 rfl rfl 1 (by decide) kw_112 rfl rfl d_RN_lookThrough_25 ?_
          refine lv_iload_n hx hb d_RN_lookThrough_28 rfl (lv_at hl 1 rfl) ?_
          refine lv_iload_n hx hb d_RN_lookThrough_29 rfl (lv_at hl 3 rfl) ?_
          refine tm_cIf X h (tm_rVN (q0 := 11) X h (c_RW_gives l D cI cL cZ ad (i) (nI k) (cs_look u i k) (hi) _) ki_RW_gives kw_370 rfl rfl rfl rfl rfl ⟨by decide, by decide⟩ rfl hl.1 rfl (Nat.le_of_ble_eq_true rfl) d_RN_lookThrough_30 ⟨by decide, by decide⟩) (fun H locs h => ?_)
          refine tm_top (y := (if cs_bt (u.2.1 8 i) (nI k) = 0 then 0 else 1)) (by rw [cs_look_a u i (by decide) (by decide) k]) ?_
          refine lv_if_eq hx hb d_RN_lookThrough_33 (tgt := 70) rfl (fun h33t => ?_) (fun h33f => ?_)
          · refine lv_iinc (v := nI (k + 1)) hx hb d_RN_lookThrough_70 hl (k := 3) rfl (tm_inc k) (by decide) rfl (fun ls (hl : lv_has ls 4 [(3, .int (nI (k + 1))), (0, .ref (ad 8)), (1, .int (nI i)), (2, .int (u.2.1 8 i))]) => ?_)
            refine lv_goto hx hb d_RN_lookThrough_73 (tgt := 12) rfl ?_
            exact ih (k + 1) _ _ _ (by omega) (by omega) (by rw [cs_look_n (Or.inl (tm_ite0.mp h33t))]; exact h) (lv_sub hl [1, 2, 3, 0] rfl)
          · have q33 : ¬ cs_bt (u.2.1 8 i) (nI k) = 0 := fun q => h33f (tm_ite0.mpr q)
            refine lv_aload_n hx hb d_RN_lookThrough_36 rfl (lv_at hl 0 rfl) ?_
            refine tm_get X h uw_RN 8 rfl rfl 1 (by decide) kw_112 rfl rfl d_RN_lookThrough_37 ?_
            refine lv_iload_n hx hb d_RN_lookThrough_40 rfl (lv_at hl 1 rfl) ?_
            refine lv_iload_n hx hb d_RN_lookThrough_41 rfl (lv_at hl 3 rfl) ?_
            refine tm_cLf X h (tm_rVN (q0 := 11) X h (c_RW_get l D cI cL cZ ad (i) (k) (cs_look u i k) (hi) (h15) _) ki_RW_get kw_374 rfl rfl rfl rfl rfl ⟨by decide, by decide⟩ rfl hl.1 rfl (Nat.le_of_ble_eq_true rfl) d_RN_lookThrough_42 ⟨by decide, by decide⟩) (fun H locs h => ?_)
            refine tm_topl (y := u.2.2 (i * 8 + k)) (by rw [cs_look_v]) ?_
            refine tm_cIf X h (tm_rSN X h (c_VA_standsForClosure l D cI cL cZ ad (u.2.2 (i * 8 + k)) (cs_look u i k)  _) ks_VA_standsForClosure kw_378 rfl rfl ⟨by decide, by decide⟩ rfl hl.1 rfl (Nat.le_of_ble_eq_true rfl) d_RN_lookThrough_45 ⟨by decide, by decide⟩) (fun H locs h => ?_)
            refine lv_if_eq hx hb d_RN_lookThrough_48 (tgt := 70) rfl (fun h48t => ?_) (fun h48f => ?_)
            · refine lv_iinc (v := nI (k + 1)) hx hb d_RN_lookThrough_70 hl (k := 3) rfl (tm_inc k) (by decide) rfl (fun ls (hl : lv_has ls 4 [(3, .int (nI (k + 1))), (0, .ref (ad 8)), (1, .int (nI i)), (2, .int (u.2.1 8 i))]) => ?_)
              refine lv_goto hx hb d_RN_lookThrough_73 (tgt := 12) rfl ?_
              exact ih (k + 1) _ _ _ (by omega) (by omega) (by rw [cs_look_n (Or.inr (tm_ite0.mp h48t))]; exact h) (lv_sub hl [1, 2, 3, 0] rfl)
            · have q48 : ¬ u.2.2 (i * 8 + k) < 4294967296 := fun q => h48f (tm_ite0.mpr q)
              obtain ⟨c9, hc9, hL9, e9⟩ := hr.2 k h15 q33 q48
              refine lv_aload_n hx hb d_RN_lookThrough_51 rfl (lv_at hl 0 rfl) ?_
              refine tm_get X h uw_RN 8 rfl rfl 2 (by decide) kw_113 rfl rfl d_RN_lookThrough_52 ?_
              refine lv_aload_n hx hb d_RN_lookThrough_55 rfl (lv_at hl 0 rfl) ?_
              refine tm_get X h uw_RN 8 rfl rfl 1 (by decide) kw_112 rfl rfl d_RN_lookThrough_56 ?_
              refine lv_iload_n hx hb d_RN_lookThrough_59 rfl (lv_at hl 1 rfl) ?_
              refine lv_iload_n hx hb d_RN_lookThrough_60 rfl (lv_at hl 3 rfl) ?_
              refine tm_cLf X h (tm_rVN (q0 := 11) X h (c_RW_get l D cI cL cZ ad (i) (k) (cs_look u i k) (hi) (h15) _) ki_RW_get kw_374 rfl rfl rfl rfl rfl ⟨by decide, by decide⟩ rfl hl.1 rfl (Nat.le_of_ble_eq_true rfl) d_RN_lookThrough_61 ⟨by decide, by decide⟩) (fun H locs h => ?_)
              refine tm_topl (y := u.2.2 (i * 8 + k)) (by rw [cs_look_v]) ?_
              refine tm_cIf X h (tm_rSN X h (c_VA_slotOf l D cI cL cZ ad (u.2.2 (i * 8 + k)) (cs_look u i k)  _) ks_VA_slotOf kw_382 rfl rfl ⟨by decide, by decide⟩ rfl hl.1 rfl (Nat.le_of_ble_eq_true rfl) d_RN_lookThrough_64 ⟨by decide, by decide⟩) (fun H locs h => ?_)
              refine tm_top (y := nI (cs_sl (u.2.2 (i * 8 + k)))) (by rw [e9, cs_sl_n hc9]; exact cs_sl_of hc9) ?_
              refine tm_cVf X h (tm_rVN (q0 := 14) X h (c_CL_noteLiving l D cI cL cZ ad (cs_sl (u.2.2 (i * 8 + k))) (cs_look u i k) (by rw [e9, cs_sl_n hc9]; exact hc9) (fun hz => (hL.look hr k hk).room (by rw [e9, cs_sl_n hc9]; exact hc9) hz) _) ki_CL_noteLiving kw_385 rfl rfl rfl rfl rfl ⟨by decide, by decide⟩ rfl hl.1 rfl (Nat.le_of_ble_eq_true rfl) d_RN_lookThrough_67 ⟨by decide, by decide⟩) (fun H locs h => ?_)
              refine lv_iinc (v := nI (k + 1)) hx hb d_RN_lookThrough_70 hl (k := 3) rfl (tm_inc k) (by decide) rfl (fun ls (hl : lv_has ls 4 [(3, .int (nI (k + 1))), (0, .ref (ad 8)), (1, .int (nI i)), (2, .int (u.2.1 8 i))]) => ?_)
              refine lv_goto hx hb d_RN_lookThrough_73 (tgt := 12) rfl ?_
              exact ih (k + 1) _ _ _ (by omega) (by omega) (by rw [cs_look_s q33 q48]; exact h) (lv_sub hl [1, 2, 3, 0] rfl)
  exact lp12 _ (0) _ _ _ (Nat.lt_succ_self _) (Nat.zero_le _) h (lv_sub hl [2, 3, 1, 0] rfl)
theorem d_RN_measure_0 : decode b_RN_measure 0 = .ok (.aload_n 0, 1) := by decide +kernel
theorem d_RN_measure_1 : decode b_RN_measure 1 = .ok (.getfield 21, 3) := by decide +kernel
theorem d_RN_measure_4 : decode b_RN_measure 4 = .ok (.invokevirtual 226, 3) := by decide +kernel
theorem d_RN_measure_7 : decode b_RN_measure 7 = .ok (.aload_n 0, 1) := by decide +kernel
theorem d_RN_measure_8 : decode b_RN_measure 8 = .ok (.aload_n 0, 1) := by decide +kernel
theorem d_RN_measure_9 : decode b_RN_measure 9 = .ok (.getfield 46, 3) := by decide +kernel
theorem d_RN_measure_12 : decode b_RN_measure 12 = .ok (.aload_n 0, 1) := by decide +kernel
theorem d_RN_measure_13 : decode b_RN_measure 13 = .ok (.iconst 0, 1) := by decide +kernel
theorem d_RN_measure_14 : decode b_RN_measure 14 = .ok (.invokevirtual 229, 3) := by decide +kernel
theorem d_RN_measure_17 : decode b_RN_measure 17 = .ok (.iadd, 1) := by decide +kernel
theorem d_RN_measure_18 : decode b_RN_measure 18 = .ok (.putfield 79, 3) := by decide +kernel
theorem d_RN_measure_21 : decode b_RN_measure 21 = .ok (.iconst 0, 1) := by decide +kernel
theorem d_RN_measure_22 : decode b_RN_measure 22 = .ok (.istore_n 1, 1) := by decide +kernel
theorem d_RN_measure_23 : decode b_RN_measure 23 = .ok (.iload_n 1, 1) := by decide +kernel
theorem d_RN_measure_24 : decode b_RN_measure 24 = .ok (.aload_n 0, 1) := by decide +kernel
theorem d_RN_measure_25 : decode b_RN_measure 25 = .ok (.getfield 46, 3) := by decide +kernel
theorem d_RN_measure_28 : decode b_RN_measure 28 = .ok (.if_icmp .ge 26, 3) := by decide +kernel
theorem d_RN_measure_31 : decode b_RN_measure 31 = .ok (.aload_n 0, 1) := by decide +kernel
theorem d_RN_measure_32 : decode b_RN_measure 32 = .ok (.dup, 1) := by decide +kernel
theorem d_RN_measure_33 : decode b_RN_measure 33 = .ok (.getfield 79, 3) := by decide +kernel
theorem d_RN_measure_36 : decode b_RN_measure 36 = .ok (.aload_n 0, 1) := by decide +kernel
theorem d_RN_measure_37 : decode b_RN_measure 37 = .ok (.iload_n 1, 1) := by decide +kernel
theorem d_RN_measure_38 : decode b_RN_measure 38 = .ok (.invokestatic 163, 3) := by decide +kernel
theorem d_RN_measure_41 : decode b_RN_measure 41 = .ok (.invokevirtual 229, 3) := by decide +kernel
theorem d_RN_measure_44 : decode b_RN_measure 44 = .ok (.iadd, 1) := by decide +kernel
theorem d_RN_measure_45 : decode b_RN_measure 45 = .ok (.putfield 79, 3) := by decide +kernel
theorem d_RN_measure_48 : decode b_RN_measure 48 = .ok (.iinc 1 1, 3) := by decide +kernel
theorem d_RN_measure_51 : decode b_RN_measure 51 = .ok (.goto (-28), 3) := by decide +kernel
theorem d_RN_measure_54 : decode b_RN_measure 54 = .ok (.iconst 0, 1) := by decide +kernel
theorem d_RN_measure_55 : decode b_RN_measure 55 = .ok (.istore_n 1, 1) := by decide +kernel
theorem d_RN_measure_56 : decode b_RN_measure 56 = .ok (.iload_n 1, 1) := by decide +kernel
theorem d_RN_measure_57 : decode b_RN_measure 57 = .ok (.bipush 120, 2) := by decide +kernel
theorem d_RN_measure_59 : decode b_RN_measure 59 = .ok (.if_icmp .ge 47, 3) := by decide +kernel
theorem d_RN_measure_62 : decode b_RN_measure 62 = .ok (.iload_n 1, 1) := by decide +kernel
theorem d_RN_measure_63 : decode b_RN_measure 63 = .ok (.aload_n 0, 1) := by decide +kernel
theorem d_RN_measure_64 : decode b_RN_measure 64 = .ok (.getfield 21, 3) := by decide +kernel
theorem d_RN_measure_67 : decode b_RN_measure 67 = .ok (.getfield 232, 3) := by decide +kernel
theorem d_RN_measure_70 : decode b_RN_measure 70 = .ok (.if_icmp .ge 36, 3) := by decide +kernel
theorem d_RN_measure_73 : decode b_RN_measure 73 = .ok (.aload_n 0, 1) := by decide +kernel
theorem d_RN_measure_74 : decode b_RN_measure 74 = .ok (.dup, 1) := by decide +kernel
theorem d_RN_measure_75 : decode b_RN_measure 75 = .ok (.getfield 79, 3) := by decide +kernel
theorem d_RN_measure_78 : decode b_RN_measure 78 = .ok (.iconst 1, 1) := by decide +kernel
theorem d_RN_measure_79 : decode b_RN_measure 79 = .ok (.aload_n 0, 1) := by decide +kernel
theorem d_RN_measure_80 : decode b_RN_measure 80 = .ok (.aload_n 0, 1) := by decide +kernel
theorem d_RN_measure_81 : decode b_RN_measure 81 = .ok (.getfield 21, 3) := by decide +kernel
theorem d_RN_measure_84 : decode b_RN_measure 84 = .ok (.getfield 235, 3) := by decide +kernel
theorem d_RN_measure_87 : decode b_RN_measure 87 = .ok (.iload_n 1, 1) := by decide +kernel
theorem d_RN_measure_88 : decode b_RN_measure 88 = .ok (.iaload, 1) := by decide +kernel
theorem d_RN_measure_89 : decode b_RN_measure 89 = .ok (.invokestatic 150, 3) := by decide +kernel
theorem d_RN_measure_92 : decode b_RN_measure 92 = .ok (.invokevirtual 229, 3) := by decide +kernel
theorem d_RN_measure_95 : decode b_RN_measure 95 = .ok (.iadd, 1) := by decide +kernel
theorem d_RN_measure_96 : decode b_RN_measure 96 = .ok (.iadd, 1) := by decide +kernel
theorem d_RN_measure_97 : decode b_RN_measure 97 = .ok (.putfield 79, 3) := by decide +kernel
theorem d_RN_measure_100 : decode b_RN_measure 100 = .ok (.iinc 1 1, 3) := by decide +kernel
theorem d_RN_measure_103 : decode b_RN_measure 103 = .ok (.goto (-47), 3) := by decide +kernel
theorem d_RN_measure_106 : decode b_RN_measure 106 = .ok (.return_, 1) := by decide +kernel
set_option maxHeartbeats 4000000 in
set_option maxRecDepth 100000 in
theorem c_RN_measure (l : Launch) (D : va_G) (cI cL cZ : ClassId) (ad : Nat → Nat) (F : Nat) (L : Nat → Prop) (M : Nat → Prop) (u : tm_SC) (hF : u.1 0 = nI F) (hF2 : F ≤ 120) (hM : cs_LL u M) (hr : ∀ i, i ≤ F → cs_row u L i) (hc : ∀ c, c < 120 → L c → cs_row u L (121 + c)) : tm_V l y_RN_measure b_RN_measure 2 ({ frames := 2, cells := 0, slots := 0, locals := 45 } : Room) D (tm_yC cI cL cZ) (tm_wC ad cI cL cZ) [.ref (ad 8)] u (fun u' => cs_MP u F L u') := by
  intro sz
  refine tm_of (Qc := fun A => va_Qv (fun u' => cs_MP u F L u') (fun u' t => tm_B D (tm_yC cI cL cZ) A (tm_wC ad cI cL cZ u') t) A) (by decide) (Nat.le_of_ble_eq_true rfl) ?_ sz
  intro pg eg sg mg bel met cg A ls X h hl hnm
  have hx := X.1.1
  have hb := X.1.2.1
  have hl : lv_has ls 2 [(0, .ref (ad 8))] := hl
  refine lv_aload_n hx hb d_RN_measure_0 rfl (lv_at hl 0 rfl) ?_
  refine tm_get X h uw_RN 8 rfl rfl 2 (by decide) kw_113 rfl rfl d_RN_measure_1 ?_
  refine tm_cVf X h (tm_rVN (q0 := 14) X h (c_CL_forgetLiving l D cI cL cZ ad (tm_cnt (u.2.1 10) 120) u (tm_cnt_le _ _) (hM.1) (fun j q => by obtain ⟨c, a, _, b, _⟩ := hM.2.1 j q; rw [b]; exact vp_in_nI a (by decide)) _) ki_CL_forgetLiving kw_362 rfl rfl rfl rfl rfl ⟨by decide, by decide⟩ rfl hl.1 rfl (Nat.le_of_ble_eq_true rfl) d_RN_measure_4 ⟨by decide, by decide⟩) (fun H locs h => ?_)
  refine lv_aload_n hx hb d_RN_measure_7 rfl (lv_at hl 0 rfl) ?_
  refine lv_aload_n hx hb d_RN_measure_8 rfl (lv_at hl 0 rfl) ?_
  refine tm_get X h uw_RN 8 rfl rfl 5 (by decide) kw_117 rfl rfl d_RN_measure_9 ?_
  refine lv_aload_n hx hb d_RN_measure_12 rfl (lv_at hl 0 rfl) ?_
  refine lv_iconst (v := 0) hx hb d_RN_measure_13 (by decide) ?_
  refine tm_cIf X h (tm_rV (q0 := 8) X h (c_RN_lookThrough l D cI cL cZ ad (0) (L) (tm_sf (cs_fgt u (tm_cnt (u.2.1 10) 120)) 10 0) (by decide) ((hr 0 (Nat.zero_le _)).fg) (hM.fg L) _) ki_RN_lookThrough kw_366 rfl rfl rfl rfl rfl ⟨by decide, by decide⟩ rfl hl.1 rfl (Nat.le_of_ble_eq_true rfl) d_RN_measure_14 ⟨by decide, by decide⟩) (fun H locs h => ?_)
  refine lv_iadd hx hb d_RN_measure_17 ?_
  refine tm_put X h uw_RN t_RN t_RN_ok n_RN 8 rfl rfl 9 (by decide) kw_124 rfl rfl (rfl) (rfl) (Nat.le_of_ble_eq_true rfl) (ws' := tm_wC ad cI cL cZ (tm_sf (cs_look (tm_sf (cs_fgt u (tm_cnt (u.2.1 10) 120)) 10 0) (0) 8) 4 (((((tm_sf (cs_fgt u (tm_cnt (u.2.1 10) 120)) 10 0)).1 0) + (cs_bc ((tm_sf (cs_fgt u (tm_cnt (u.2.1 10) 120)) 10 0).2.1 8 (0))))))) rfl d_RN_measure_18 (fun H locs h => ?_)
  refine lv_iconst (v := 0) hx hb d_RN_measure_21 (by decide) ?_
  refine lv_istore_n hx hb d_RN_measure_22 rfl hl (by decide) rfl (fun ls (hl : lv_has ls 2 [(1, .int (0)), (0, .ref (ad 8))]) => ?_)
  have lp23 : ∀ (nf : Nat) (f : Nat) (H : Heap) (locs : List Loc) (ls : Array Slot), F - f < nf → (f ≤ F) → tm_H D A sg (tm_wC ad cI cL cZ (cs_mf u f)) H locs → lv_has ls 2 [(0, .ref (ad 8)), (1, .int (nI f))] → W pg l eg ({ frames := 2, cells := 0, slots := 0, locals := 45 } : Room) sg mg ([.ref (ad 8)] : List Value).toArray bel met cg H locs 0 0 (MQ bel (va_Qv (fun u' => cs_MP u F L u') (fun u' t => tm_B D (tm_yC cI cL cZ) A (tm_wC ad cI cL cZ u') t) A) ([.ref (ad 8)] : List Value).toArray sg 0 0 A) (F0 mg 23 ls []) := by
    intro nf
    induction nf with
    | zero => intro f H locs ls hm; exact absurd hm (Nat.not_lt_zero _)
    | succ nf ih =>
      intro f H locs ls hm hf h hl
      refine lv_iload_n hx hb d_RN_measure_23 rfl (lv_at hl 1 rfl) ?_
      refine lv_aload_n hx hb d_RN_measure_24 rfl (lv_at hl 0 rfl) ?_
      refine tm_get X h uw_RN 8 rfl rfl 5 (by decide) kw_117 rfl rfl d_RN_measure_25 ?_
      refine tm_top (y := nI F) ((cs_mf_f u (by decide) (by decide) f).trans hF) ?_
      refine lv_icmp_ge hx hb d_RN_measure_28 (tgt := 54) rfl (fun h28t => ?_) (fun h28f => ?_)
      · have e28 : f = F := by have := (nI_leI (by omega) (by omega)).mp h28t; omega
        rw [e28] at h
        refine lv_iconst (v := 0) hx hb d_RN_measure_54 (by decide) ?_
        refine lv_istore_n hx hb d_RN_measure_55 rfl hl (by decide) rfl (fun ls (hl : lv_has ls 2 [(1, .int (0)), (0, .ref (ad 8))]) => ?_)
        have lp56 : ∀ (nf : Nat) (k : Nat) (H : Heap) (locs : List Loc) (ls : Array Slot), 120 - k < nf → (k ≤ tm_cnt ((cs_mc (cs_mf u F) k).2.1 10) 120) → (cs_LL (cs_mc (cs_mf u F) k) L) → ((cs_mc (cs_mf u F) k).2.1 8 = u.2.1 8) → ((cs_mc (cs_mf u F) k).2.2 = u.2.2) → (∀ j, j < k → j < tm_cnt ((cs_mc (cs_mf u F) j).2.1 10) 120) → tm_H D A sg (tm_wC ad cI cL cZ ((cs_mc (cs_mf u F) k))) H locs → lv_has ls 2 [(0, .ref (ad 8)), (1, .int (nI k))] → W pg l eg ({ frames := 2, cells := 0, slots := 0, locals := 45 } : Room) sg mg ([.ref (ad 8)] : List Value).toArray bel met cg H locs 0 0 (MQ bel (va_Qv (fun u' => cs_MP u F L u') (fun u' t => tm_B D (tm_yC cI cL cZ) A (tm_wC ad cI cL cZ u') t) A) ([.ref (ad 8)] : List Value).toArray sg 0 0 A) (F0 mg 56 ls []) := by
          intro nf
          induction nf with
          | zero => intro k H locs ls hm; exact absurd hm (Nat.not_lt_zero _)
          | succ nf ih =>
            intro k H locs ls hm hk hLL e8 ev hlt h hl
            refine lv_iload_n hx hb d_RN_measure_56 rfl (lv_at hl 1 rfl) ?_
            refine lv_bipush (v := 120) hx hb d_RN_measure_57 (by decide) ?_
            have hcn := tm_cnt_le ((cs_mc (cs_mf u F) k).2.1 10) 120
            refine lv_icmp_ge hx hb d_RN_measure_59 (tgt := 106) rfl (fun h59t => ?_) (fun h59f => ?_)
            · exact tm_vret (w := tm_wC ad cI cL cZ) (u := ((cs_mc (cs_mf u F) k))) X h (⟨k, by omega, rfl, by have := (nI_leI (a := 120) (by decide) (by omega)).mp h59t; omega, hLL, hlt⟩) d_RN_measure_106
            · refine lv_iload_n hx hb d_RN_measure_62 rfl (lv_at hl 1 rfl) ?_
              refine lv_aload_n hx hb d_RN_measure_63 rfl (lv_at hl 0 rfl) ?_
              refine tm_get X h uw_RN 8 rfl rfl 2 (by decide) kw_113 rfl rfl d_RN_measure_64 ?_
              refine tm_getN X h uw_CL 14 rfl rfl 3 (by decide) kw_100 rfl rfl d_RN_measure_67 ?_
              refine tm_top (y := nI (tm_cnt ((cs_mc (cs_mf u F) k).2.1 10) 120)) (hLL.1) ?_
              refine lv_icmp_ge hx hb d_RN_measure_70 (tgt := 106) rfl (fun h70t => ?_) (fun h70f => ?_)
              · exact tm_vret (w := tm_wC ad cI cL cZ) (u := ((cs_mc (cs_mf u F) k))) X h (⟨k, by omega, rfl, by have := (nI_leI (by omega) (by omega)).mp h70t; omega, hLL, hlt⟩) d_RN_measure_106
              · have h70 : k < tm_cnt ((cs_mc (cs_mf u F) k).2.1 10) 120 := by have : ¬ tm_cnt ((cs_mc (cs_mf u F) k).2.1 10) 120 ≤ k := fun q => h70f ((nI_leI (by omega) (by omega)).mpr q); omega
                obtain ⟨c9, hc9, hL9, e9, _⟩ := hLL.2.1 k h70
                have hs9 : vp_in ((cs_mc (cs_mf u F) k).2.1 11 k) 120 := by rw [e9]; exact vp_in_nI hc9 (by decide)
                have en9 : ((cs_mc (cs_mf u F) k).2.1 11 k).toNatClampNeg = c9 := by rw [e9]; exact nI_clamp (by omega)
                have hrow : cs_row (cs_mc (cs_mf u F) k) L (121 + ((cs_mc (cs_mf u F) k).2.1 11 k).toNatClampNeg) := by rw [en9]; exact (hc c9 hc9 hL9).same e8 ev
                refine lv_aload_n hx hb d_RN_measure_73 rfl (lv_at hl 0 rfl) ?_
                refine lv_dup hx hb d_RN_measure_74 rfl ?_
                refine tm_get X h uw_RN 8 rfl rfl 9 (by decide) kw_124 rfl rfl d_RN_measure_75 ?_
                refine lv_iconst (v := 1) hx hb d_RN_measure_78 (by decide) ?_
                refine lv_aload_n hx hb d_RN_measure_79 rfl (lv_at hl 0 rfl) ?_
                refine lv_aload_n hx hb d_RN_measure_80 rfl (lv_at hl 0 rfl) ?_
                refine tm_get X h uw_RN 8 rfl rfl 2 (by decide) kw_113 rfl rfl d_RN_measure_81 ?_
                refine tm_getN X h uw_CL 14 rfl rfl 2 (by decide) kw_97 rfl rfl d_RN_measure_84 ?_
                refine lv_iload_n hx hb d_RN_measure_87 rfl (lv_at hl 1 rfl) ?_
                refine tm_iald X h 17 0 rfl rfl (k) (by omega) (rfl) (by decide) d_RN_measure_88 ?_
                refine tm_top (y := nI (((cs_mc (cs_mf u F) k).2.1 11 k).toNatClampNeg)) ((tm_vin hs9 (by decide)).2) ?_
                refine tm_cIf X h (tm_rSN X h (c_RW_ofClosure l D cI cL cZ ad (((cs_mc (cs_mf u F) k).2.1 11 k).toNatClampNeg) ((cs_mc (cs_mf u F) k))  _) ks_RW_ofClosure kw_398 rfl rfl ⟨by decide, by decide⟩ rfl hl.1 rfl (Nat.le_of_ble_eq_true rfl) d_RN_measure_89 ⟨by decide, by decide⟩) (fun H locs h => ?_)
                refine tm_cIf X h (tm_rV (q0 := 8) X h (c_RN_lookThrough l D cI cL cZ ad (121 + ((cs_mc (cs_mf u F) k).2.1 11 k).toNatClampNeg) (L) ((cs_mc (cs_mf u F) k)) (by omega) (hrow) (hLL) _) ki_RN_lookThrough kw_366 rfl rfl rfl rfl rfl ⟨by decide, by decide⟩ rfl hl.1 rfl (Nat.le_of_ble_eq_true rfl) d_RN_measure_92 ⟨by decide, by decide⟩) (fun H locs h => ?_)
                refine lv_iadd hx hb d_RN_measure_95 ?_
                refine lv_iadd hx hb d_RN_measure_96 ?_
                refine tm_put X h uw_RN t_RN t_RN_ok n_RN 8 rfl rfl 9 (by decide) kw_124 rfl rfl (rfl) (rfl) (Nat.le_of_ble_eq_true rfl) (ws' := tm_wC ad cI cL cZ (tm_sf (cs_look ((cs_mc (cs_mf u F) k)) (121 + ((cs_mc (cs_mf u F) k).2.1 11 k).toNatClampNeg) 8) 4 ((((((cs_mc (cs_mf u F) k))).1 4) + (1 + (cs_bc (((cs_mc (cs_mf u F) k)).2.1 8 (121 + ((cs_mc (cs_mf u F) k).2.1 11 k).toNatClampNeg)))))))) rfl d_RN_measure_97 (fun H locs h => ?_)
                refine lv_iinc (v := nI (k + 1)) hx hb d_RN_measure_100 hl (k := 1) rfl (tm_inc k) (by decide) rfl (fun ls (hl : lv_has ls 2 [(1, .int (nI (k + 1))), (0, .ref (ad 8))]) => ?_)
                refine lv_goto hx hb d_RN_measure_103 (tgt := 56) rfl ?_
                exact ih (k + 1) _ _ _ (by have := tm_cnt_le ((cs_mc (cs_mf u F) k).2.1 10) 120; omega) (Nat.lt_of_lt_of_le h70 (tm_cnt_mono 120 (fun c _ q => cs_look_10 8 q))) ((hLL.look hrow 8 (Nat.le_refl _)).put4 _) ((cs_look_a _ _ (by decide) (by decide) 8).trans e8) ((cs_look_v _ _ 8).trans ev) (lt_s hlt h70) h (lv_sub hl [1, 0] rfl)
        exact lp56 _ (0) _ _ _ (Nat.lt_succ_self _) (Nat.zero_le _) (cs_mf_L hM hr F (Nat.le_refl _)) (cs_mf_a u (by decide) (by decide) F) (cs_mf_v u F) (fun j q => absurd q (Nat.not_lt_zero _)) h (lv_sub hl [1, 0] rfl)
      · have h28 : f < F := by have : ¬ F ≤ f := fun q => h28f ((nI_leI (by omega) (by omega)).mpr q); omega
        refine lv_aload_n hx hb d_RN_measure_31 rfl (lv_at hl 0 rfl) ?_
        refine lv_dup hx hb d_RN_measure_32 rfl ?_
        refine tm_get X h uw_RN 8 rfl rfl 9 (by decide) kw_124 rfl rfl d_RN_measure_33 ?_
        refine lv_aload_n hx hb d_RN_measure_36 rfl (lv_at hl 0 rfl) ?_
        refine lv_iload_n hx hb d_RN_measure_37 rfl (lv_at hl 1 rfl) ?_
        refine tm_cIf X h (tm_rSN X h (c_RW_ofFrame l D cI cL cZ ad (f) (cs_mf u f)  _) ks_RW_ofFrame kw_395 rfl rfl ⟨by decide, by decide⟩ rfl hl.1 rfl (Nat.le_of_ble_eq_true rfl) d_RN_measure_38 ⟨by decide, by decide⟩) (fun H locs h => ?_)
        refine tm_cIf X h (tm_rV (q0 := 8) X h (c_RN_lookThrough l D cI cL cZ ad (1 + f) (L) (cs_mf u f) (by omega) (((hr (1 + f) (by omega)).same (cs_mf_a u (by decide) (by decide) f) (cs_mf_v u f))) (cs_mf_L hM hr f hf) _) ki_RN_lookThrough kw_366 rfl rfl rfl rfl rfl ⟨by decide, by decide⟩ rfl hl.1 rfl (Nat.le_of_ble_eq_true rfl) d_RN_measure_41 ⟨by decide, by decide⟩) (fun H locs h => ?_)
        refine lv_iadd hx hb d_RN_measure_44 ?_
        refine tm_put X h uw_RN t_RN t_RN_ok n_RN 8 rfl rfl 9 (by decide) kw_124 rfl rfl (rfl) (rfl) (Nat.le_of_ble_eq_true rfl) (ws' := tm_wC ad cI cL cZ (tm_sf (cs_look (cs_mf u f) (1 + f) 8) 4 (((((cs_mf u f)).1 4) + (cs_bc ((cs_mf u f).2.1 8 (1 + f))))))) rfl d_RN_measure_45 (fun H locs h => ?_)
        refine lv_iinc (v := nI (f + 1)) hx hb d_RN_measure_48 hl (k := 1) rfl (tm_inc f) (by decide) rfl (fun ls (hl : lv_has ls 2 [(1, .int (nI (f + 1))), (0, .ref (ad 8))]) => ?_)
        refine lv_goto hx hb d_RN_measure_51 (tgt := 23) rfl ?_
        exact ih (f + 1) _ _ _ (by omega) (by omega) h (lv_sub hl [1, 0] rfl)
  exact lp23 _ (0) _ _ _ (Nat.lt_succ_self _) (Nat.zero_le _) h (lv_sub hl [1, 0] rfl)
theorem d_RN_start_0 : decode b_RN_start 0 = .ok (.aload_n 0, 1) := by decide +kernel
theorem d_RN_start_1 : decode b_RN_start 1 = .ok (.iconst 1, 1) := by decide +kernel
theorem d_RN_start_2 : decode b_RN_start 2 = .ok (.putfield 32, 3) := by decide +kernel
theorem d_RN_start_5 : decode b_RN_start 5 = .ok (.aload_n 0, 1) := by decide +kernel
theorem d_RN_start_6 : decode b_RN_start 6 = .ok (.iload_n 2, 1) := by decide +kernel
theorem d_RN_start_7 : decode b_RN_start 7 = .ok (.putfield 40, 3) := by decide +kernel
theorem d_RN_start_10 : decode b_RN_start 10 = .ok (.aload_n 0, 1) := by decide +kernel
theorem d_RN_start_11 : decode b_RN_start 11 = .ok (.iconst 0, 1) := by decide +kernel
theorem d_RN_start_12 : decode b_RN_start 12 = .ok (.putfield 43, 3) := by decide +kernel
theorem d_RN_start_15 : decode b_RN_start 15 = .ok (.aload_n 0, 1) := by decide +kernel
theorem d_RN_start_16 : decode b_RN_start 16 = .ok (.iconst 0, 1) := by decide +kernel
theorem d_RN_start_17 : decode b_RN_start 17 = .ok (.putfield 46, 3) := by decide +kernel
theorem d_RN_start_20 : decode b_RN_start 20 = .ok (.aload_n 0, 1) := by decide +kernel
theorem d_RN_start_21 : decode b_RN_start 21 = .ok (.iconst 0, 1) := by decide +kernel
theorem d_RN_start_22 : decode b_RN_start 22 = .ok (.putfield 49, 3) := by decide +kernel
theorem d_RN_start_25 : decode b_RN_start 25 = .ok (.aload_n 0, 1) := by decide +kernel
theorem d_RN_start_26 : decode b_RN_start 26 = .ok (.getfield 12, 3) := by decide +kernel
theorem d_RN_start_29 : decode b_RN_start 29 = .ok (.iconst 0, 1) := by decide +kernel
theorem d_RN_start_30 : decode b_RN_start 30 = .ok (.iconst 0, 1) := by decide +kernel
theorem d_RN_start_31 : decode b_RN_start 31 = .ok (.invokevirtual 52, 3) := by decide +kernel
theorem d_RN_start_34 : decode b_RN_start 34 = .ok (.aload_n 0, 1) := by decide +kernel
theorem d_RN_start_35 : decode b_RN_start 35 = .ok (.iload_n 1, 1) := by decide +kernel
theorem d_RN_start_36 : decode b_RN_start 36 = .ok (.invokevirtual 56, 3) := by decide +kernel
theorem d_RN_start_39 : decode b_RN_start 39 = .ok (.aload_n 0, 1) := by decide +kernel
theorem d_RN_start_40 : decode b_RN_start 40 = .ok (.invokevirtual 60, 3) := by decide +kernel
theorem d_RN_start_43 : decode b_RN_start 43 = .ok (.return_, 1) := by decide +kernel
set_option maxHeartbeats 4000000 in
set_option maxRecDepth 100000 in
theorem c_RN_start (l : Launch) (D : va_G) (cI cL cZ : ClassId) (ad : Nat → Nat) (e : Nat) (x : Int32) (M : Nat → Prop) (u : tm_SC) (he : e < 100) (hM : cs_LL u M) : tm_V l y_RN_start b_RN_start 3 ({ frames := 3, cells := 0, slots := 0, locals := 66 } : Room) D (tm_yC cI cL cZ) (tm_wC ad cI cL cZ) [.ref (ad 8), .int (nI e), .int (x)] u (fun u' => cs_MP (cs_beg u e x) 0 (fun _ => False) u') := by
  intro sz
  refine tm_of (Qc := fun A => va_Qv (fun u' => cs_MP (cs_beg u e x) 0 (fun _ => False) u') (fun u' t => tm_B D (tm_yC cI cL cZ) A (tm_wC ad cI cL cZ u') t) A) (by decide) (Nat.le_of_ble_eq_true rfl) ?_ sz
  intro pg eg sg mg bel met cg A ls X h hl hnm
  have hx := X.1.1
  have hb := X.1.2.1
  have hl : lv_has ls 3 [(0, .ref (ad 8)), (1, .int (nI e)), (2, .int (x))] := hl
  refine lv_aload_n hx hb d_RN_start_0 rfl (lv_at hl 0 rfl) ?_
  refine lv_iconst (v := 1) hx hb d_RN_start_1 (by decide) ?_
  refine tm_put X h uw_RN t_RN t_RN_ok n_RN 8 rfl rfl 6 (by decide) kw_119 rfl rfl (rfl) (rfl) (Nat.le_of_ble_eq_true rfl) (ws' := tm_wC ad cI cL cZ (tm_sf u 1 (1))) rfl d_RN_start_2 (fun H locs h => ?_)
  refine lv_aload_n hx hb d_RN_start_5 rfl (lv_at hl 0 rfl) ?_
  refine lv_iload_n hx hb d_RN_start_6 rfl (lv_at hl 2 rfl) ?_
  refine tm_put X h uw_RN t_RN t_RN_ok n_RN 8 rfl rfl 7 (by decide) kw_121 rfl rfl (rfl) (rfl) (Nat.le_of_ble_eq_true rfl) (ws' := tm_wC ad cI cL cZ (tm_sf (tm_sf u 1 (1)) 2 (x))) rfl d_RN_start_7 (fun H locs h => ?_)
  refine lv_aload_n hx hb d_RN_start_10 rfl (lv_at hl 0 rfl) ?_
  refine lv_iconst (v := 0) hx hb d_RN_start_11 (by decide) ?_
  refine tm_put X h uw_RN t_RN t_RN_ok n_RN 8 rfl rfl 8 (by decide) kw_122 rfl rfl (rfl) (rfl) (Nat.le_of_ble_eq_true rfl) (ws' := tm_wC ad cI cL cZ (tm_sf (tm_sf (tm_sf u 1 (1)) 2 (x)) 3 (0))) rfl d_RN_start_12 (fun H locs h => ?_)
  refine lv_aload_n hx hb d_RN_start_15 rfl (lv_at hl 0 rfl) ?_
  refine lv_iconst (v := 0) hx hb d_RN_start_16 (by decide) ?_
  refine tm_put X h uw_RN t_RN t_RN_ok n_RN 8 rfl rfl 5 (by decide) kw_117 rfl rfl (rfl) (rfl) (Nat.le_of_ble_eq_true rfl) (ws' := tm_wC ad cI cL cZ (tm_sf (tm_sf (tm_sf (tm_sf u 1 (1)) 2 (x)) 3 (0)) 0 (0))) rfl d_RN_start_17 (fun H locs h => ?_)
  refine lv_aload_n hx hb d_RN_start_20 rfl (lv_at hl 0 rfl) ?_
  refine lv_iconst (v := 0) hx hb d_RN_start_21 (by decide) ?_
  refine tm_put X h uw_RN t_RN t_RN_ok n_RN 8 rfl rfl 10 (by decide) kw_126 rfl rfl (rfl) (rfl) (Nat.le_of_ble_eq_true rfl) (ws' := tm_wC ad cI cL cZ (tm_sf (tm_sf (tm_sf (tm_sf (tm_sf u 1 (1)) 2 (x)) 3 (0)) 0 (0)) 5 (0))) rfl d_RN_start_22 (fun H locs h => ?_)
  refine lv_aload_n hx hb d_RN_start_25 rfl (lv_at hl 0 rfl) ?_
  refine tm_get X h uw_RN 8 rfl rfl 1 (by decide) kw_112 rfl rfl d_RN_start_26 ?_
  refine lv_iconst (v := 0) hx hb d_RN_start_29 (by decide) ?_
  refine lv_iconst (v := 0) hx hb d_RN_start_30 (by decide) ?_
  refine tm_cVf X h (tm_rVN (q0 := 11) X h (c_RW_trim l D cI cL cZ ad (0) (0) (tm_sf (tm_sf (tm_sf (tm_sf (tm_sf u 1 (1)) 2 (x)) 3 (0)) 0 (0)) 5 (0)) (by decide) _) ki_RW_trim kw_346 rfl rfl rfl rfl rfl ⟨by decide, by decide⟩ rfl hl.1 rfl (Nat.le_of_ble_eq_true rfl) d_RN_start_31 ⟨by decide, by decide⟩) (fun H locs h => ?_)
  refine lv_aload_n hx hb d_RN_start_34 rfl (lv_at hl 0 rfl) ?_
  refine lv_iload_n hx hb d_RN_start_35 rfl (lv_at hl 1 rfl) ?_
  refine tm_cVf X h (tm_rV (q0 := 8) X h (c_RN_evaluateTrimmed l D cI cL cZ ad (e) (cs_trim (tm_sf (tm_sf (tm_sf (tm_sf (tm_sf u 1 (1)) 2 (x)) 3 (0)) 0 (0)) 5 (0)) (0) (0)) (he) _) ki_RN_evaluateTrimmed kw_350 rfl rfl rfl rfl rfl ⟨by decide, by decide⟩ rfl hl.1 rfl (Nat.le_of_ble_eq_true rfl) d_RN_start_36 ⟨by decide, by decide⟩) (fun H locs h => ?_)
  refine lv_aload_n hx hb d_RN_start_39 rfl (lv_at hl 0 rfl) ?_
  refine tm_cV X h (tm_rV (q0 := 8) X h (c_RN_measure l D cI cL cZ ad (0) (fun _ => False) (M) (cs_ev (cs_trim (tm_sf (tm_sf (tm_sf (tm_sf (tm_sf u 1 (1)) 2 (x)) 3 (0)) 0 (0)) 5 (0)) (0) (0)) (e)) (rfl) (by decide) (hM) (fun i q => by rw [Nat.le_zero.mp q]; exact cs_beg_row u e x _) (fun _ _ q => q.elim) _) ki_RN_measure kw_358 rfl rfl rfl rfl rfl ⟨by decide, by decide⟩ rfl hl.1 rfl (Nat.le_of_ble_eq_true rfl) d_RN_start_40 ⟨by decide, by decide⟩) (fun u40 H locs hp40 h => ?_)
  exact tm_vret (w := tm_wC ad cI cL cZ) (u := u40) X h (hp40) d_RN_start_43
theorem d_RN_evaluateSecond_0 : decode b_RN_evaluateSecond 0 = .ok (.iload_n 1, 1) := by decide +kernel
theorem d_RN_evaluateSecond_1 : decode b_RN_evaluateSecond 1 = .ok (.invokestatic 163, 3) := by decide +kernel
theorem d_RN_evaluateSecond_4 : decode b_RN_evaluateSecond 4 = .ok (.istore_n 3, 1) := by decide +kernel
theorem d_RN_evaluateSecond_5 : decode b_RN_evaluateSecond 5 = .ok (.aload_n 0, 1) := by decide +kernel
theorem d_RN_evaluateSecond_6 : decode b_RN_evaluateSecond 6 = .ok (.getfield 12, 3) := by decide +kernel
theorem d_RN_evaluateSecond_9 : decode b_RN_evaluateSecond 9 = .ok (.iconst 0, 1) := by decide +kernel
theorem d_RN_evaluateSecond_10 : decode b_RN_evaluateSecond 10 = .ok (.invokevirtual 178, 3) := by decide +kernel
theorem d_RN_evaluateSecond_13 : decode b_RN_evaluateSecond 13 = .ok (.lstore 4, 2) := by decide +kernel
theorem d_RN_evaluateSecond_15 : decode b_RN_evaluateSecond 15 = .ok (.aload_n 0, 1) := by decide +kernel
theorem d_RN_evaluateSecond_16 : decode b_RN_evaluateSecond 16 = .ok (.getfield 12, 3) := by decide +kernel
theorem d_RN_evaluateSecond_19 : decode b_RN_evaluateSecond 19 = .ok (.iload_n 3, 1) := by decide +kernel
theorem d_RN_evaluateSecond_20 : decode b_RN_evaluateSecond 20 = .ok (.iconst 0, 1) := by decide +kernel
theorem d_RN_evaluateSecond_21 : decode b_RN_evaluateSecond 21 = .ok (.invokevirtual 181, 3) := by decide +kernel
theorem d_RN_evaluateSecond_24 : decode b_RN_evaluateSecond 24 = .ok (.aload_n 0, 1) := by decide +kernel
theorem d_RN_evaluateSecond_25 : decode b_RN_evaluateSecond 25 = .ok (.getfield 12, 3) := by decide +kernel
theorem d_RN_evaluateSecond_28 : decode b_RN_evaluateSecond 28 = .ok (.iload_n 3, 1) := by decide +kernel
theorem d_RN_evaluateSecond_29 : decode b_RN_evaluateSecond 29 = .ok (.lload 4, 2) := by decide +kernel
theorem d_RN_evaluateSecond_31 : decode b_RN_evaluateSecond 31 = .ok (.invokevirtual 184, 3) := by decide +kernel
theorem d_RN_evaluateSecond_34 : decode b_RN_evaluateSecond 34 = .ok (.aload_n 0, 1) := by decide +kernel
theorem d_RN_evaluateSecond_35 : decode b_RN_evaluateSecond 35 = .ok (.getfield 25, 3) := by decide +kernel
theorem d_RN_evaluateSecond_38 : decode b_RN_evaluateSecond 38 = .ok (.iload_n 1, 1) := by decide +kernel
theorem d_RN_evaluateSecond_39 : decode b_RN_evaluateSecond 39 = .ok (.iload_n 2, 1) := by decide +kernel
theorem d_RN_evaluateSecond_40 : decode b_RN_evaluateSecond 40 = .ok (.iastore, 1) := by decide +kernel
theorem d_RN_evaluateSecond_41 : decode b_RN_evaluateSecond 41 = .ok (.aload_n 0, 1) := by decide +kernel
theorem d_RN_evaluateSecond_42 : decode b_RN_evaluateSecond 42 = .ok (.aload_n 0, 1) := by decide +kernel
theorem d_RN_evaluateSecond_43 : decode b_RN_evaluateSecond 43 = .ok (.getfield 36, 3) := by decide +kernel
theorem d_RN_evaluateSecond_46 : decode b_RN_evaluateSecond 46 = .ok (.getfield 109, 3) := by decide +kernel
theorem d_RN_evaluateSecond_49 : decode b_RN_evaluateSecond 49 = .ok (.aload_n 0, 1) := by decide +kernel
theorem d_RN_evaluateSecond_50 : decode b_RN_evaluateSecond 50 = .ok (.getfield 29, 3) := by decide +kernel
theorem d_RN_evaluateSecond_53 : decode b_RN_evaluateSecond 53 = .ok (.iload_n 1, 1) := by decide +kernel
theorem d_RN_evaluateSecond_54 : decode b_RN_evaluateSecond 54 = .ok (.iaload, 1) := by decide +kernel
theorem d_RN_evaluateSecond_55 : decode b_RN_evaluateSecond 55 = .ok (.iaload, 1) := by decide +kernel
theorem d_RN_evaluateSecond_56 : decode b_RN_evaluateSecond 56 = .ok (.invokevirtual 56, 3) := by decide +kernel
theorem d_RN_evaluateSecond_59 : decode b_RN_evaluateSecond 59 = .ok (.return_, 1) := by decide +kernel
set_option maxHeartbeats 4000000 in
set_option maxRecDepth 100000 in
theorem c_RN_evaluateSecond (l : Launch) (D : va_G) (cI cL cZ : ClassId) (ad : Nat → Nat) (f : Nat) (e : Nat) (b : Nat) (x : Int32) (u : tm_SC) (hf : f < 120) (he : e < 100) (hb2 : b < 100) (h7 : u.2.1 7 f = nI e) (h2 : u.2.1 2 e = nI b) : tm_V l y_RN_evaluateSecond b_RN_evaluateSecond 6 ({ frames := 2, cells := 0, slots := 0, locals := 82 } : Room) D (tm_yC cI cL cZ) (tm_wC ad cI cL cZ) [.ref (ad 8), .int (nI f), .int (x)] u (fun u' => u' = (cs_snd u f b x)) := by
  intro sz
  refine tm_of (Qc := fun A => va_Qv (fun u' => u' = (cs_snd u f b x)) (fun u' t => tm_B D (tm_yC cI cL cZ) A (tm_wC ad cI cL cZ u') t) A) (by decide) (Nat.le_of_ble_eq_true rfl) ?_ sz
  intro pg eg sg mg bel met cg A ls X h hl hnm
  have hx := X.1.1
  have hb := X.1.2.1
  have hl : lv_has ls 6 [(0, .ref (ad 8)), (1, .int (nI f)), (2, .int (x))] := hl
  refine lv_iload_n hx hb d_RN_evaluateSecond_0 rfl (lv_at hl 1 rfl) ?_
  refine tm_cIf X h (tm_rSN X h (c_RW_ofFrame l D cI cL cZ ad (f) u  _) ks_RW_ofFrame kw_395 rfl rfl ⟨by decide, by decide⟩ rfl hl.1 rfl (Nat.le_of_ble_eq_true rfl) d_RN_evaluateSecond_1 ⟨by decide, by decide⟩) (fun H locs h => ?_)
  refine lv_istore_n hx hb d_RN_evaluateSecond_4 rfl hl (by decide) rfl (fun ls (hl : lv_has ls 6 [(3, .int ((nI (1 + (f))))), (0, .ref (ad 8)), (1, .int (nI f)), (2, .int (x))]) => ?_)
  refine lv_aload_n hx hb d_RN_evaluateSecond_5 rfl (lv_at hl 1 rfl) ?_
  refine tm_get X h uw_RN 8 rfl rfl 1 (by decide) kw_112 rfl rfl d_RN_evaluateSecond_6 ?_
  refine lv_iconst (v := 0) hx hb d_RN_evaluateSecond_9 (by decide) ?_
  refine tm_cLf X h (tm_rVN (q0 := 11) X h (c_RW_single l D cI cL cZ ad (0) u (by decide) _) ki_RW_single kw_490 rfl rfl rfl rfl rfl ⟨by decide, by decide⟩ rfl hl.1 rfl (Nat.le_of_ble_eq_true rfl) d_RN_evaluateSecond_10 ⟨by decide, by decide⟩) (fun H locs h => ?_)
  refine lv_lstore hx hb d_RN_evaluateSecond_13 hl (by decide) rfl (fun ls (hl : lv_has ls 6 [(4, .long ((u.2.2 ((0) * 8 + 0)))), (3, .int ((nI (1 + (f))))), (0, .ref (ad 8)), (1, .int (nI f)), (2, .int (x))]) => ?_)
  refine lv_aload_n hx hb d_RN_evaluateSecond_15 rfl (lv_at hl 2 rfl) ?_
  refine tm_get X h uw_RN 8 rfl rfl 1 (by decide) kw_112 rfl rfl d_RN_evaluateSecond_16 ?_
  refine lv_iload_n hx hb d_RN_evaluateSecond_19 rfl (lv_at hl 1 rfl) ?_
  refine lv_iconst (v := 0) hx hb d_RN_evaluateSecond_20 (by decide) ?_
  refine tm_cVf X h (tm_rVN (q0 := 11) X h (c_RW_copy l D cI cL cZ ad (1 + f) (0) u (by omega) (by decide) _) ki_RW_copy kw_495 rfl rfl rfl rfl rfl ⟨by decide, by decide⟩ rfl hl.1 rfl (Nat.le_of_ble_eq_true rfl) d_RN_evaluateSecond_21 ⟨by decide, by decide⟩) (fun H locs h => ?_)
  refine lv_aload_n hx hb d_RN_evaluateSecond_24 rfl (lv_at hl 2 rfl) ?_
  refine tm_get X h uw_RN 8 rfl rfl 1 (by decide) kw_112 rfl rfl d_RN_evaluateSecond_25 ?_
  refine lv_iload_n hx hb d_RN_evaluateSecond_28 rfl (lv_at hl 1 rfl) ?_
  refine lv_lload hx hb d_RN_evaluateSecond_29 (lv_at hl 0 rfl) ?_
  refine tm_cVf X h (tm_rVN (q0 := 11) X h (c_RW_setSingle l D cI cL cZ ad (1 + f) ((u.2.2 ((0) * 8 + 0))) (cs_copy u (1 + f) (0)) (by omega) _) ki_RW_setSingle kw_423 rfl rfl rfl rfl rfl ⟨by decide, by decide⟩ rfl hl.1 rfl (Nat.le_of_ble_eq_true rfl) d_RN_evaluateSecond_31 ⟨by decide, by decide⟩) (fun H locs h => ?_)
  refine lv_aload_n hx hb d_RN_evaluateSecond_34 rfl (lv_at hl 2 rfl) ?_
  refine tm_get X h uw_RN 8 rfl rfl 3 (by decide) kw_115 rfl rfl d_RN_evaluateSecond_35 ?_
  refine lv_iload_n hx hb d_RN_evaluateSecond_38 rfl (lv_at hl 3 rfl) ?_
  refine lv_iload_n hx hb d_RN_evaluateSecond_39 rfl (lv_at hl 4 rfl) ?_
  refine tm_iast X h 9 0 rfl rfl (f) (by omega) (rfl) (by decide) (ws' := tm_wC ad cI cL cZ (tm_sa (cs_set1 (cs_copy u (1 + f) (0)) (1 + f) ((u.2.2 ((0) * 8 + 0)))) 6 (f) (x))) rfl d_RN_evaluateSecond_40 (fun H locs h => ?_)
  refine lv_aload_n hx hb d_RN_evaluateSecond_41 rfl (lv_at hl 2 rfl) ?_
  refine lv_aload_n hx hb d_RN_evaluateSecond_42 rfl (lv_at hl 2 rfl) ?_
  refine tm_get X h uw_RN 8 rfl rfl 0 (by decide) kw_111 rfl rfl d_RN_evaluateSecond_43 ?_
  refine tm_getN X h uw_EX 1 rfl rfl 2 (by decide) kw_39 rfl rfl d_RN_evaluateSecond_46 ?_
  refine lv_aload_n hx hb d_RN_evaluateSecond_49 rfl (lv_at hl 2 rfl) ?_
  refine tm_get X h uw_RN 8 rfl rfl 4 (by decide) kw_116 rfl rfl d_RN_evaluateSecond_50 ?_
  refine lv_iload_n hx hb d_RN_evaluateSecond_53 rfl (lv_at hl 3 rfl) ?_
  refine tm_iald X h 10 0 rfl rfl (f) (by omega) (rfl) (by decide) d_RN_evaluateSecond_54 ?_
  refine tm_iald X h 4 0 rfl rfl (e) (he) (h7) (by decide) d_RN_evaluateSecond_55 ?_
  refine tm_top (y := nI b) (h2) ?_
  refine tm_cVf X h (tm_rV (q0 := 8) X h (c_RN_evaluateTrimmed l D cI cL cZ ad (b) (tm_sa (cs_set1 (cs_copy u (1 + f) (0)) (1 + f) ((u.2.2 ((0) * 8 + 0)))) 6 (f) (x)) (hb2) _) ki_RN_evaluateTrimmed kw_350 rfl rfl rfl rfl rfl ⟨by decide, by decide⟩ rfl hl.1 rfl (Nat.le_of_ble_eq_true rfl) d_RN_evaluateSecond_56 ⟨by decide, by decide⟩) (fun H locs h => ?_)
  exact tm_vret (w := tm_wC ad cI cL cZ) (u := (cs_ev (tm_sa (cs_set1 (cs_copy u (1 + f) (0)) (1 + f) ((u.2.2 ((0) * 8 + 0)))) 6 (f) (x)) (b))) X h (rfl) d_RN_evaluateSecond_59
theorem d_RN_end_0 : decode b_RN_end 0 = .ok (.aload_n 0, 1) := by decide +kernel
theorem d_RN_end_1 : decode b_RN_end 1 = .ok (.getfield 12, 3) := by decide +kernel
theorem d_RN_end_4 : decode b_RN_end 4 = .ok (.iconst 0, 1) := by decide +kernel
theorem d_RN_end_5 : decode b_RN_end 5 = .ok (.invokevirtual 178, 3) := by decide +kernel
theorem d_RN_end_8 : decode b_RN_end 8 = .ok (.lstore_n 1, 1) := by decide +kernel
theorem d_RN_end_9 : decode b_RN_end 9 = .ok (.aload_n 0, 1) := by decide +kernel
theorem d_RN_end_10 : decode b_RN_end 10 = .ok (.lload_n 1, 1) := by decide +kernel
theorem d_RN_end_11 : decode b_RN_end 11 = .ok (.invokestatic 203, 3) := by decide +kernel
theorem d_RN_end_14 : decode b_RN_end 14 = .ok (.putfield 207, 3) := by decide +kernel
theorem d_RN_end_17 : decode b_RN_end 17 = .ok (.aload_n 0, 1) := by decide +kernel
theorem d_RN_end_18 : decode b_RN_end 18 = .ok (.aload_n 0, 1) := by decide +kernel
theorem d_RN_end_19 : decode b_RN_end 19 = .ok (.getfield 207, 3) := by decide +kernel
theorem d_RN_end_22 : decode b_RN_end 22 = .ok (.ifCond .eq 18, 3) := by decide +kernel
theorem d_RN_end_25 : decode b_RN_end 25 = .ok (.aload_n 0, 1) := by decide +kernel
theorem d_RN_end_26 : decode b_RN_end 26 = .ok (.getfield 21, 3) := by decide +kernel
theorem d_RN_end_29 : decode b_RN_end 29 = .ok (.getfield 147, 3) := by decide +kernel
theorem d_RN_end_32 : decode b_RN_end 32 = .ok (.lload_n 1, 1) := by decide +kernel
theorem d_RN_end_33 : decode b_RN_end 33 = .ok (.invokestatic 210, 3) := by decide +kernel
theorem d_RN_end_36 : decode b_RN_end 36 = .ok (.iaload, 1) := by decide +kernel
theorem d_RN_end_37 : decode b_RN_end 37 = .ok (.goto 5, 3) := by decide +kernel
theorem d_RN_end_40 : decode b_RN_end 40 = .ok (.lload_n 1, 1) := by decide +kernel
theorem d_RN_end_41 : decode b_RN_end 41 = .ok (.l2i, 1) := by decide +kernel
theorem d_RN_end_42 : decode b_RN_end 42 = .ok (.putfield 213, 3) := by decide +kernel
theorem d_RN_end_45 : decode b_RN_end 45 = .ok (.aload_n 0, 1) := by decide +kernel
theorem d_RN_end_46 : decode b_RN_end 46 = .ok (.iconst 2, 1) := by decide +kernel
theorem d_RN_end_47 : decode b_RN_end 47 = .ok (.putfield 32, 3) := by decide +kernel
theorem d_RN_end_50 : decode b_RN_end 50 = .ok (.return_, 1) := by decide +kernel
set_option maxHeartbeats 4000000 in
set_option maxRecDepth 100000 in
theorem c_RN_end (l : Launch) (D : va_G) (cI cL cZ : ClassId) (ad : Nat → Nat)  (u : tm_SC) (hs : ¬ u.2.2 (0 * 8 + 0) < 4294967296 → vp_in ((u.2.2 (0 * 8 + 0) - 4294967296).toInt32) 120) : tm_V l y_RN_end b_RN_end 3 ({ frames := 2, cells := 0, slots := 0, locals := 43 } : Room) D (tm_yC cI cL cZ) (tm_wC ad cI cL cZ) [.ref (ad 8)] u (fun u' => u' = (cs_end u)) := by
  intro sz
  refine tm_of (Qc := fun A => va_Qv (fun u' => u' = (cs_end u)) (fun u' t => tm_B D (tm_yC cI cL cZ) A (tm_wC ad cI cL cZ u') t) A) (by decide) (Nat.le_of_ble_eq_true rfl) ?_ sz
  intro pg eg sg mg bel met cg A ls X h hl hnm
  have hx := X.1.1
  have hb := X.1.2.1
  have hl : lv_has ls 3 [(0, .ref (ad 8))] := hl
  refine lv_aload_n hx hb d_RN_end_0 rfl (lv_at hl 0 rfl) ?_
  refine tm_get X h uw_RN 8 rfl rfl 1 (by decide) kw_112 rfl rfl d_RN_end_1 ?_
  refine lv_iconst (v := 0) hx hb d_RN_end_4 (by decide) ?_
  refine tm_cLf X h (tm_rVN (q0 := 11) X h (c_RW_single l D cI cL cZ ad (0) u (by decide) _) ki_RW_single kw_490 rfl rfl rfl rfl rfl ⟨by decide, by decide⟩ rfl hl.1 rfl (Nat.le_of_ble_eq_true rfl) d_RN_end_5 ⟨by decide, by decide⟩) (fun H locs h => ?_)
  refine lv_lstore_n hx hb d_RN_end_8 rfl hl (by decide) rfl (fun ls (hl : lv_has ls 3 [(1, .long ((u.2.2 ((0) * 8 + 0)))), (0, .ref (ad 8))]) => ?_)
  refine lv_aload_n hx hb d_RN_end_9 rfl (lv_at hl 1 rfl) ?_
  refine lv_lload_n hx hb d_RN_end_10 rfl (lv_at hl 0 rfl) ?_
  refine tm_cIf X h (tm_rSN X h (c_VA_standsForClosure l D cI cL cZ ad ((u.2.2 ((0) * 8 + 0))) u  _) ks_VA_standsForClosure kw_378 rfl rfl ⟨by decide, by decide⟩ rfl hl.1 rfl (Nat.le_of_ble_eq_true rfl) d_RN_end_11 ⟨by decide, by decide⟩) (fun H locs h => ?_)
  refine tm_put X h uw_RN t_RN t_RN_ok n_RN 8 rfl rfl 14 (by decide) kw_133 rfl rfl (by split <;> rfl) (by split <;> rfl) (Nat.le_of_ble_eq_true rfl) (ws' := tm_wC ad cI cL cZ (tm_sf u 9 ((if ((u.2.2 ((0) * 8 + 0))) < 4294967296 then 0 else 1)))) rfl d_RN_end_14 (fun H locs h => ?_)
  refine lv_aload_n hx hb d_RN_end_17 rfl (lv_at hl 1 rfl) ?_
  refine lv_aload_n hx hb d_RN_end_18 rfl (lv_at hl 1 rfl) ?_
  refine tm_get X h uw_RN 8 rfl rfl 14 (by decide) kw_133 rfl rfl d_RN_end_19 ?_
  refine tm_top (y := (if u.2.2 (0 * 8 + 0) < 4294967296 then 0 else 1)) (rfl) ?_
  refine lv_if_eq hx hb d_RN_end_22 (tgt := 40) rfl (fun h22t => ?_) (fun h22f => ?_)
  · refine lv_lload_n hx hb d_RN_end_40 rfl (lv_at hl 0 rfl) ?_
    refine lv_l2i hx hb d_RN_end_41 rfl ?_
    refine tm_put X h uw_RN t_RN t_RN_ok n_RN 8 rfl rfl 13 (by decide) kw_131 rfl rfl (rfl) (rfl) (Nat.le_of_ble_eq_true rfl) (ws' := tm_wC ad cI cL cZ (tm_sf (tm_sf u 9 ((if ((u.2.2 ((0) * 8 + 0))) < 4294967296 then 0 else 1))) 8 (((u.2.2 ((0) * 8 + 0))).toInt32))) rfl d_RN_end_42 (fun H locs h => ?_)
    refine lv_aload_n hx hb d_RN_end_45 rfl (lv_at hl 1 rfl) ?_
    refine lv_iconst (v := 2) hx hb d_RN_end_46 (by decide) ?_
    refine tm_put X h uw_RN t_RN t_RN_ok n_RN 8 rfl rfl 6 (by decide) kw_119 rfl rfl (rfl) (rfl) (Nat.le_of_ble_eq_true rfl) (ws' := tm_wC ad cI cL cZ (tm_sf (tm_sf (tm_sf u 9 ((if ((u.2.2 ((0) * 8 + 0))) < 4294967296 then 0 else 1))) 8 (((u.2.2 ((0) * 8 + 0))).toInt32)) 1 (2))) rfl d_RN_end_47 (fun H locs h => ?_)
    exact tm_vret (w := tm_wC ad cI cL cZ) (u := (tm_sf (tm_sf (tm_sf u 9 ((if ((u.2.2 ((0) * 8 + 0))) < 4294967296 then 0 else 1))) 8 (((u.2.2 ((0) * 8 + 0))).toInt32)) 1 (2))) X h (congrArg (fun z => tm_sf (tm_sf (tm_sf u 9 (if u.2.2 (0 * 8 + 0) < 4294967296 then 0 else 1)) 8 z) 1 2) (if_pos (tm_ite0.mp h22t)).symm) d_RN_end_50
  · refine lv_aload_n hx hb d_RN_end_25 rfl (lv_at hl 1 rfl) ?_
    refine tm_get X h uw_RN 8 rfl rfl 2 (by decide) kw_113 rfl rfl d_RN_end_26 ?_
    refine tm_getN X h uw_CL 14 rfl rfl 0 (by decide) kw_94 rfl rfl d_RN_end_29 ?_
    refine lv_lload_n hx hb d_RN_end_32 rfl (lv_at hl 0 rfl) ?_
    refine tm_cIf X h (tm_rSN X h (c_VA_slotOf l D cI cL cZ ad ((u.2.2 ((0) * 8 + 0))) (tm_sf u 9 ((if ((u.2.2 ((0) * 8 + 0))) < 4294967296 then 0 else 1)))  _) ks_VA_slotOf kw_382 rfl rfl ⟨by decide, by decide⟩ rfl hl.1 rfl (Nat.le_of_ble_eq_true rfl) d_RN_end_33 ⟨by decide, by decide⟩) (fun H locs h => ?_)
    refine tm_iald X h 15 0 rfl rfl (cs_sl (u.2.2 (0 * 8 + 0))) ((tm_vin (hs (fun q => h22f (tm_ite0.mpr q))) (by decide)).1) ((tm_vin (hs (fun q => h22f (tm_ite0.mpr q))) (by decide)).2) (by decide) d_RN_end_36 ?_
    refine lv_goto hx hb d_RN_end_37 (tgt := 42) rfl ?_
    refine tm_put X h uw_RN t_RN t_RN_ok n_RN 8 rfl rfl 13 (by decide) kw_131 rfl rfl (rfl) (rfl) (Nat.le_of_ble_eq_true rfl) (ws' := tm_wC ad cI cL cZ (tm_sf (tm_sf u 9 ((if ((u.2.2 ((0) * 8 + 0))) < 4294967296 then 0 else 1))) 8 ((((tm_sf u 9 ((if ((u.2.2 ((0) * 8 + 0))) < 4294967296 then 0 else 1)))).2.1 9 (cs_sl (u.2.2 (0 * 8 + 0))))))) rfl d_RN_end_42 (fun H locs h => ?_)
    refine lv_aload_n hx hb d_RN_end_45 rfl (lv_at hl 1 rfl) ?_
    refine lv_iconst (v := 2) hx hb d_RN_end_46 (by decide) ?_
    refine tm_put X h uw_RN t_RN t_RN_ok n_RN 8 rfl rfl 6 (by decide) kw_119 rfl rfl (rfl) (rfl) (Nat.le_of_ble_eq_true rfl) (ws' := tm_wC ad cI cL cZ (tm_sf (tm_sf (tm_sf u 9 ((if ((u.2.2 ((0) * 8 + 0))) < 4294967296 then 0 else 1))) 8 ((((tm_sf u 9 ((if ((u.2.2 ((0) * 8 + 0))) < 4294967296 then 0 else 1)))).2.1 9 (cs_sl (u.2.2 (0 * 8 + 0)))))) 1 (2))) rfl d_RN_end_47 (fun H locs h => ?_)
    exact tm_vret (w := tm_wC ad cI cL cZ) (u := (tm_sf (tm_sf (tm_sf u 9 ((if ((u.2.2 ((0) * 8 + 0))) < 4294967296 then 0 else 1))) 8 ((((tm_sf u 9 ((if ((u.2.2 ((0) * 8 + 0))) < 4294967296 then 0 else 1)))).2.1 9 (cs_sl (u.2.2 (0 * 8 + 0)))))) 1 (2))) X h (congrArg (fun z => tm_sf (tm_sf (tm_sf u 9 (if u.2.2 (0 * 8 + 0) < 4294967296 then 0 else 1)) 8 z) 1 2) (if_neg (fun q => h22f (tm_ite0.mpr q))).symm) d_RN_end_50
