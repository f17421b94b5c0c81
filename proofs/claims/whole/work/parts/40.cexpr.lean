theorem kw_1 : (Jvm.Cond.initialized "TrimmedMachine") ∈ tm_wa := tm_tb (List.mem_append_left _ (List.mem_of_getElem? (i := 1) (by decide +kernel))) rfl
theorem kw_10 : (Jvm.Cond.initialized "java/lang/IllegalStateException") ∈ tm_wa := tm_tb (List.mem_append_left _ (List.mem_of_getElem? (i := 10) (by decide +kernel))) rfl
theorem kw_11 : (Jvm.Cond.initialized "java/lang/IllegalArgumentException") ∈ tm_wa := tm_tb (List.mem_append_left _ (List.mem_of_getElem? (i := 11) (by decide +kernel))) rfl
theorem kw_12 : (Jvm.Cond.initialized "java/lang/Math") ∈ tm_wa := tm_tb (List.mem_append_left _ (List.mem_of_getElem? (i := 12) (by decide +kernel))) rfl
theorem kw_34 : (Jvm.Cond.fieldLinkNest "TrimmedMachine" (122 : Nat) "TrimmedMachine$Expressions" "kinds" "[I" "TrimmedMachine") ∈ tm_nw := tm_nin (List.mem_append_left _ (List.mem_of_getElem? (i := 34) (by decide +kernel))) rfl
theorem kw_37 : (Jvm.Cond.fieldLinkNest "TrimmedMachine" (125 : Nat) "TrimmedMachine$Expressions" "firsts" "[I" "TrimmedMachine") ∈ tm_nw := tm_nin (List.mem_append_left _ (List.mem_of_getElem? (i := 37) (by decide +kernel))) rfl
theorem kw_40 : (Jvm.Cond.fieldLinkNest "TrimmedMachine" (128 : Nat) "TrimmedMachine$Expressions" "seconds" "[I" "TrimmedMachine") ∈ tm_nw := tm_nin (List.mem_append_left _ (List.mem_of_getElem? (i := 40) (by decide +kernel))) rfl
theorem kw_43 : (Jvm.Cond.fieldLinkNest "TrimmedMachine" (131 : Nat) "TrimmedMachine$Expressions" "thirds" "[I" "TrimmedMachine") ∈ tm_nw := tm_nin (List.mem_append_left _ (List.mem_of_getElem? (i := 43) (by decide +kernel))) rfl
theorem kw_45 : (Jvm.Cond.fieldLinkNest "TrimmedMachine" (37 : Nat) "TrimmedMachine$Expressions" "unbound" "[I" "TrimmedMachine") ∈ tm_nw := tm_nin (List.mem_append_left _ (List.mem_of_getElem? (i := 45) (by decide +kernel))) rfl
theorem kw_48 : (Jvm.Cond.fieldLinkNest "TrimmedMachine" (115 : Nat) "TrimmedMachine$Expressions" "heights" "[I" "TrimmedMachine") ∈ tm_nw := tm_nin (List.mem_append_left _ (List.mem_of_getElem? (i := 48) (by decide +kernel))) rfl
theorem kw_49 : (Jvm.Cond.fieldLinkNest "TrimmedMachine" (105 : Nat) "TrimmedMachine$Expressions" "count" "I" "TrimmedMachine") ∈ tm_nw := tm_nin (List.mem_append_left _ (List.mem_of_getElem? (i := 49) (by decide +kernel))) rfl
theorem kw_120 : (Jvm.Cond.fieldLinkNest "TrimmedMachine" (65 : Nat) "TrimmedMachine$Run" "status" "I" "TrimmedMachine") ∈ tm_nw := tm_nin (List.mem_append_left _ (List.mem_of_getElem? (i := 120) (by decide +kernel))) rfl
theorem kw_130 : (Jvm.Cond.fieldLinkNest "TrimmedMachine" (96 : Nat) "TrimmedMachine$Run" "result" "I" "TrimmedMachine") ∈ tm_nw := tm_nin (List.mem_append_left _ (List.mem_of_getElem? (i := 130) (by decide +kernel))) rfl
theorem kw_132 : (Jvm.Cond.fieldLinkNest "TrimmedMachine" (99 : Nat) "TrimmedMachine$Run" "resultIsClosure" "Z" "TrimmedMachine") ∈ tm_nw := tm_nin (List.mem_append_left _ (List.mem_of_getElem? (i := 132) (by decide +kernel))) rfl
theorem kw_165 : (Jvm.Cond.fieldLink "TrimmedMachine" (10 : Nat) "TrimmedMachine" "expressions" "LTrimmedMachine$Expressions;") ∈ tm_wa := tm_tb (List.mem_append_left _ (List.mem_of_getElem? (i := 165) (by decide +kernel))) rfl
theorem kw_166 : (Jvm.Cond.fieldLink "TrimmedMachine" (21 : Nat) "TrimmedMachine" "run" "LTrimmedMachine$Run;") ∈ tm_wa := tm_tb (List.mem_append_left _ (List.mem_of_getElem? (i := 166) (by decide +kernel))) rfl
theorem kw_181 : (Jvm.Cond.instanceMethod ({ cls := "TrimmedMachine", name := "number", desc := "(I)I" } : Jvm.MethodName)) ∈ tm_wa := tm_tb (List.mem_append_left _ (List.mem_of_getElem? (i := 181) (by decide +kernel))) rfl
theorem kw_182 : (Jvm.Cond.selects "TrimmedMachine" ({ cls := "TrimmedMachine", name := "number", desc := "(I)I" } : Jvm.MethodName) ({ cls := "TrimmedMachine", name := "number", desc := "(I)I" } : Jvm.MethodName)) ∈ tm_wa := tm_tb (List.mem_append_left _ (List.mem_of_getElem? (i := 182) (by decide +kernel))) rfl
theorem kw_183 : (Jvm.Cond.code ({ cls := "TrimmedMachine", name := "number", desc := "(I)I" } : Jvm.MethodName) prog_1_method_2_code (2 : Nat) (Option.some Jvm.ClassFile.FieldType.int)) ∈ tm_wa := tm_tb (List.mem_append_left _ (List.mem_of_getElem? (i := 183) (rfl))) rfl
theorem kw_184 : (Jvm.Cond.methodLink "TrimmedMachine" (25 : Nat) ({ cls := "TrimmedMachine", name := "addExpression", desc := "(IIIIII)I" } : Jvm.MethodName)) ∈ tm_wa := tm_tb (List.mem_append_left _ (List.mem_of_getElem? (i := 184) (by decide +kernel))) rfl
theorem kw_186 : (Jvm.Cond.instanceMethod ({ cls := "TrimmedMachine", name := "addExpression", desc := "(IIIIII)I" } : Jvm.MethodName)) ∈ tm_wa := tm_tb (List.mem_append_left _ (List.mem_of_getElem? (i := 186) (by decide +kernel))) rfl
theorem kw_187 : (Jvm.Cond.code ({ cls := "TrimmedMachine", name := "addExpression", desc := "(IIIIII)I" } : Jvm.MethodName) prog_1_method_18_code (8 : Nat) (Option.some Jvm.ClassFile.FieldType.int)) ∈ tm_wa := tm_tb (List.mem_append_left _ (List.mem_of_getElem? (i := 187) (rfl))) rfl
theorem kw_188 : (Jvm.Cond.classLink "TrimmedMachine" (110 : Nat) "java/lang/IllegalStateException") ∈ tm_wa := tm_tb (List.mem_append_left _ (List.mem_of_getElem? (i := 188) (by decide +kernel))) rfl
theorem kw_262 : (Jvm.Cond.instanceMethod ({ cls := "TrimmedMachine", name := "variable", desc := "(I)I" } : Jvm.MethodName)) ∈ tm_wa := tm_tb (List.mem_append_right _ (List.mem_append_left _ (List.mem_of_getElem? (i := 22) (by decide +kernel)))) rfl
theorem kw_263 : (Jvm.Cond.selects "TrimmedMachine" ({ cls := "TrimmedMachine", name := "variable", desc := "(I)I" } : Jvm.MethodName) ({ cls := "TrimmedMachine", name := "variable", desc := "(I)I" } : Jvm.MethodName)) ∈ tm_wa := tm_tb (List.mem_append_right _ (List.mem_append_left _ (List.mem_of_getElem? (i := 23) (by decide +kernel)))) rfl
theorem kw_264 : (Jvm.Cond.code ({ cls := "TrimmedMachine", name := "variable", desc := "(I)I" } : Jvm.MethodName) prog_1_method_3_code (2 : Nat) (Option.some Jvm.ClassFile.FieldType.int)) ∈ tm_wa := tm_tb (List.mem_append_right _ (List.mem_append_left _ (List.mem_of_getElem? (i := 24) (rfl)))) rfl
theorem kw_265 : (Jvm.Cond.methodLink "TrimmedMachine" (29 : Nat) ({ cls := "TrimmedMachine", name := "requireVariable", desc := "(I)V" } : Jvm.MethodName)) ∈ tm_wa := tm_tb (List.mem_append_right _ (List.mem_append_left _ (List.mem_of_getElem? (i := 25) (by decide +kernel)))) rfl
theorem kw_267 : (Jvm.Cond.instanceMethod ({ cls := "TrimmedMachine", name := "requireVariable", desc := "(I)V" } : Jvm.MethodName)) ∈ tm_wa := tm_tb (List.mem_append_right _ (List.mem_append_left _ (List.mem_of_getElem? (i := 27) (by decide +kernel)))) rfl
theorem kw_268 : (Jvm.Cond.code ({ cls := "TrimmedMachine", name := "requireVariable", desc := "(I)V" } : Jvm.MethodName) prog_1_method_14_code (2 : Nat) (Option.none : Option Jvm.ClassFile.FieldType)) ∈ tm_wa := tm_tb (List.mem_append_right _ (List.mem_append_left _ (List.mem_of_getElem? (i := 28) (rfl)))) rfl
theorem kw_269 : (Jvm.Cond.classLink "TrimmedMachine" (47 : Nat) "java/lang/IllegalArgumentException") ∈ tm_wa := tm_tb (List.mem_append_right _ (List.mem_append_left _ (List.mem_of_getElem? (i := 29) (by decide +kernel)))) rfl
theorem kw_289 : (Jvm.Cond.instanceMethod ({ cls := "TrimmedMachine", name := "function", desc := "(III)I" } : Jvm.MethodName)) ∈ tm_wa := tm_tb (List.mem_append_right _ (List.mem_append_left _ (List.mem_of_getElem? (i := 49) (by decide +kernel)))) rfl
theorem kw_290 : (Jvm.Cond.selects "TrimmedMachine" ({ cls := "TrimmedMachine", name := "function", desc := "(III)I" } : Jvm.MethodName) ({ cls := "TrimmedMachine", name := "function", desc := "(III)I" } : Jvm.MethodName)) ∈ tm_wa := tm_tb (List.mem_append_right _ (List.mem_append_left _ (List.mem_of_getElem? (i := 50) (by decide +kernel)))) rfl
theorem kw_291 : (Jvm.Cond.code ({ cls := "TrimmedMachine", name := "function", desc := "(III)I" } : Jvm.MethodName) prog_1_method_4_code (6 : Nat) (Option.some Jvm.ClassFile.FieldType.int)) ∈ tm_wa := tm_tb (List.mem_append_right _ (List.mem_append_left _ (List.mem_of_getElem? (i := 51) (rfl)))) rfl
theorem kw_292 : (Jvm.Cond.methodLink "TrimmedMachine" (33 : Nat) ({ cls := "TrimmedMachine", name := "heightAbove", desc := "(I)I" } : Jvm.MethodName)) ∈ tm_wa := tm_tb (List.mem_append_right _ (List.mem_append_left _ (List.mem_of_getElem? (i := 52) (by decide +kernel)))) rfl
theorem kw_294 : (Jvm.Cond.instanceMethod ({ cls := "TrimmedMachine", name := "heightAbove", desc := "(I)I" } : Jvm.MethodName)) ∈ tm_wa := tm_tb (List.mem_append_right _ (List.mem_append_left _ (List.mem_of_getElem? (i := 54) (by decide +kernel)))) rfl
theorem kw_295 : (Jvm.Cond.code ({ cls := "TrimmedMachine", name := "heightAbove", desc := "(I)I" } : Jvm.MethodName) prog_1_method_17_code (3 : Nat) (Option.some Jvm.ClassFile.FieldType.int)) ∈ tm_wa := tm_tb (List.mem_append_right _ (List.mem_append_left _ (List.mem_of_getElem? (i := 55) (rfl)))) rfl
theorem kw_296 : (Jvm.Cond.methodLink "TrimmedMachine" (54 : Nat) ({ cls := "TrimmedMachine", name := "requireExpression", desc := "(I)V" } : Jvm.MethodName)) ∈ tm_wa := tm_tb (List.mem_append_right _ (List.mem_append_left _ (List.mem_of_getElem? (i := 56) (by decide +kernel)))) rfl
theorem kw_298 : (Jvm.Cond.instanceMethod ({ cls := "TrimmedMachine", name := "requireExpression", desc := "(I)V" } : Jvm.MethodName)) ∈ tm_wa := tm_tb (List.mem_append_right _ (List.mem_append_left _ (List.mem_of_getElem? (i := 58) (by decide +kernel)))) rfl
theorem kw_299 : (Jvm.Cond.code ({ cls := "TrimmedMachine", name := "requireExpression", desc := "(I)V" } : Jvm.MethodName) prog_1_method_15_code (2 : Nat) (Option.none : Option Jvm.ClassFile.FieldType)) ∈ tm_wa := tm_tb (List.mem_append_right _ (List.mem_append_left _ (List.mem_of_getElem? (i := 59) (rfl)))) rfl
theorem kw_306 : (Jvm.Cond.instanceMethod ({ cls := "TrimmedMachine", name := "call", desc := "(II)I" } : Jvm.MethodName)) ∈ tm_wa := tm_tb (List.mem_append_right _ (List.mem_append_left _ (List.mem_of_getElem? (i := 66) (by decide +kernel)))) rfl
theorem kw_307 : (Jvm.Cond.selects "TrimmedMachine" ({ cls := "TrimmedMachine", name := "call", desc := "(II)I" } : Jvm.MethodName) ({ cls := "TrimmedMachine", name := "call", desc := "(II)I" } : Jvm.MethodName)) ∈ tm_wa := tm_tb (List.mem_append_right _ (List.mem_append_left _ (List.mem_of_getElem? (i := 67) (by decide +kernel)))) rfl
theorem kw_308 : (Jvm.Cond.code ({ cls := "TrimmedMachine", name := "call", desc := "(II)I" } : Jvm.MethodName) prog_1_method_5_code (5 : Nat) (Option.some Jvm.ClassFile.FieldType.int)) ∈ tm_wa := tm_tb (List.mem_append_right _ (List.mem_append_left _ (List.mem_of_getElem? (i := 68) (rfl)))) rfl
theorem kw_309 : (Jvm.Cond.methodLink "TrimmedMachine" (41 : Nat) ({ cls := "java/lang/Math", name := "max", desc := "(II)I" } : Jvm.MethodName)) ∈ tm_wa := tm_tb (List.mem_append_right _ (List.mem_append_left _ (List.mem_of_getElem? (i := 69) (by decide +kernel)))) rfl
theorem kw_310 : (Jvm.Cond.static ({ cls := "java/lang/Math", name := "max", desc := "(II)I" } : Jvm.MethodName)) ∈ tm_wa := tm_tb (List.mem_append_right _ (List.mem_append_left _ (List.mem_of_getElem? (i := 70) (by decide +kernel)))) rfl
theorem kw_311 : (Jvm.Cond.code ({ cls := "java/lang/Math", name := "max", desc := "(II)I" } : Jvm.MethodName) prog_13_method_65_code (2 : Nat) (Option.some Jvm.ClassFile.FieldType.int)) ∈ tm_wa := tm_tb (List.mem_append_right _ (List.mem_append_left _ (List.mem_of_getElem? (i := 71) (rfl)))) rfl
theorem kw_316 : (Jvm.Cond.instanceMethod ({ cls := "TrimmedMachine", name := "operation", desc := "(III)I" } : Jvm.MethodName)) ∈ tm_wa := tm_tb (List.mem_append_right _ (List.mem_append_left _ (List.mem_of_getElem? (i := 76) (by decide +kernel)))) rfl
theorem kw_317 : (Jvm.Cond.selects "TrimmedMachine" ({ cls := "TrimmedMachine", name := "operation", desc := "(III)I" } : Jvm.MethodName) ({ cls := "TrimmedMachine", name := "operation", desc := "(III)I" } : Jvm.MethodName)) ∈ tm_wa := tm_tb (List.mem_append_right _ (List.mem_append_left _ (List.mem_of_getElem? (i := 77) (by decide +kernel)))) rfl
theorem kw_318 : (Jvm.Cond.code ({ cls := "TrimmedMachine", name := "operation", desc := "(III)I" } : Jvm.MethodName) prog_1_method_6_code (6 : Nat) (Option.some Jvm.ClassFile.FieldType.int)) ∈ tm_wa := tm_tb (List.mem_append_right _ (List.mem_append_left _ (List.mem_of_getElem? (i := 78) (rfl)))) rfl
theorem kw_324 : (Jvm.Cond.instanceMethod ({ cls := "TrimmedMachine", name := "choice", desc := "(III)I" } : Jvm.MethodName)) ∈ tm_wa := tm_tb (List.mem_append_right _ (List.mem_append_left _ (List.mem_of_getElem? (i := 84) (by decide +kernel)))) rfl
theorem kw_325 : (Jvm.Cond.selects "TrimmedMachine" ({ cls := "TrimmedMachine", name := "choice", desc := "(III)I" } : Jvm.MethodName) ({ cls := "TrimmedMachine", name := "choice", desc := "(III)I" } : Jvm.MethodName)) ∈ tm_wa := tm_tb (List.mem_append_right _ (List.mem_append_left _ (List.mem_of_getElem? (i := 85) (by decide +kernel)))) rfl
theorem kw_326 : (Jvm.Cond.code ({ cls := "TrimmedMachine", name := "choice", desc := "(III)I" } : Jvm.MethodName) prog_1_method_7_code (6 : Nat) (Option.some Jvm.ClassFile.FieldType.int)) ∈ tm_wa := tm_tb (List.mem_append_right _ (List.mem_append_left _ (List.mem_of_getElem? (i := 86) (rfl)))) rfl
theorem kw_331 : (Jvm.Cond.instanceMethod ({ cls := "TrimmedMachine", name := "free", desc := "(I)I" } : Jvm.MethodName)) ∈ tm_wa := tm_tb (List.mem_append_right _ (List.mem_append_left _ (List.mem_of_getElem? (i := 91) (by decide +kernel)))) rfl
theorem kw_332 : (Jvm.Cond.selects "TrimmedMachine" ({ cls := "TrimmedMachine", name := "free", desc := "(I)I" } : Jvm.MethodName) ({ cls := "TrimmedMachine", name := "free", desc := "(I)I" } : Jvm.MethodName)) ∈ tm_wa := tm_tb (List.mem_append_right _ (List.mem_append_left _ (List.mem_of_getElem? (i := 92) (by decide +kernel)))) rfl
theorem kw_333 : (Jvm.Cond.code ({ cls := "TrimmedMachine", name := "free", desc := "(I)I" } : Jvm.MethodName) prog_1_method_8_code (2 : Nat) (Option.some Jvm.ClassFile.FieldType.int)) ∈ tm_wa := tm_tb (List.mem_append_right _ (List.mem_append_left _ (List.mem_of_getElem? (i := 93) (rfl)))) rfl
theorem kw_551 : (Jvm.Cond.instanceMethod ({ cls := "TrimmedMachine", name := "result", desc := "()I" } : Jvm.MethodName)) ∈ tm_wa := tm_tb (List.mem_append_right _ (List.mem_append_right _ (List.mem_append_left _ (List.mem_of_getElem? (i := 71) (by decide +kernel))))) rfl
theorem kw_552 : (Jvm.Cond.selects "TrimmedMachine" ({ cls := "TrimmedMachine", name := "result", desc := "()I" } : Jvm.MethodName) ({ cls := "TrimmedMachine", name := "result", desc := "()I" } : Jvm.MethodName)) ∈ tm_wa := tm_tb (List.mem_append_right _ (List.mem_append_right _ (List.mem_append_left _ (List.mem_of_getElem? (i := 72) (by decide +kernel))))) rfl
theorem kw_553 : (Jvm.Cond.code ({ cls := "TrimmedMachine", name := "result", desc := "()I" } : Jvm.MethodName) prog_1_method_12_code (1 : Nat) (Option.some Jvm.ClassFile.FieldType.int)) ∈ tm_wa := tm_tb (List.mem_append_right _ (List.mem_append_right _ (List.mem_append_left _ (List.mem_of_getElem? (i := 73) (rfl))))) rfl
theorem kw_554 : (Jvm.Cond.methodLink "TrimmedMachine" (93 : Nat) ({ cls := "TrimmedMachine", name := "requireEnded", desc := "()V" } : Jvm.MethodName)) ∈ tm_wa := tm_tb (List.mem_append_right _ (List.mem_append_right _ (List.mem_append_left _ (List.mem_of_getElem? (i := 74) (by decide +kernel))))) rfl
theorem kw_556 : (Jvm.Cond.instanceMethod ({ cls := "TrimmedMachine", name := "requireEnded", desc := "()V" } : Jvm.MethodName)) ∈ tm_wa := tm_tb (List.mem_append_right _ (List.mem_append_right _ (List.mem_append_left _ (List.mem_of_getElem? (i := 76) (by decide +kernel))))) rfl
theorem kw_557 : (Jvm.Cond.code ({ cls := "TrimmedMachine", name := "requireEnded", desc := "()V" } : Jvm.MethodName) prog_1_method_16_code (1 : Nat) (Option.none : Option Jvm.ClassFile.FieldType)) ∈ tm_wa := tm_tb (List.mem_append_right _ (List.mem_append_right _ (List.mem_append_left _ (List.mem_of_getElem? (i := 77) (rfl))))) rfl
theorem kw_563 : (Jvm.Cond.instanceMethod ({ cls := "TrimmedMachine", name := "isClosure", desc := "()Z" } : Jvm.MethodName)) ∈ tm_wa := tm_tb (List.mem_append_right _ (List.mem_append_right _ (List.mem_append_left _ (List.mem_of_getElem? (i := 83) (by decide +kernel))))) rfl
theorem kw_564 : (Jvm.Cond.selects "TrimmedMachine" ({ cls := "TrimmedMachine", name := "isClosure", desc := "()Z" } : Jvm.MethodName) ({ cls := "TrimmedMachine", name := "isClosure", desc := "()Z" } : Jvm.MethodName)) ∈ tm_wa := tm_tb (List.mem_append_right _ (List.mem_append_right _ (List.mem_append_left _ (List.mem_of_getElem? (i := 84) (by decide +kernel))))) rfl
theorem kw_565 : (Jvm.Cond.code ({ cls := "TrimmedMachine", name := "isClosure", desc := "()Z" } : Jvm.MethodName) prog_1_method_13_code (1 : Nat) (Option.some Jvm.ClassFile.FieldType.boolean)) ∈ tm_wa := tm_tb (List.mem_append_right _ (List.mem_append_right _ (List.mem_append_left _ (List.mem_of_getElem? (i := 85) (rfl))))) rfl
abbrev y_TM_requireVariable : MethodName := { cls := "TrimmedMachine", name := "requireVariable", desc := "(I)V" }
abbrev b_TM_requireVariable : ByteArray := prog_1_method_14_code
theorem ki_TM_requireVariable : tm_ki y_TM_requireVariable b_TM_requireVariable 2 none 1 := ⟨⟨kw_1, kw_268, by decide, by decide, by decide +kernel⟩, kw_267, tm_sel (n := 2) (List.mem_append_left _ (List.mem_of_getElem? (i := 2) rfl))⟩
abbrev y_TM_requireExpression : MethodName := { cls := "TrimmedMachine", name := "requireExpression", desc := "(I)V" }
abbrev b_TM_requireExpression : ByteArray := prog_1_method_15_code
theorem ki_TM_requireExpression : tm_ki y_TM_requireExpression b_TM_requireExpression 2 none 1 := ⟨⟨kw_1, kw_299, by decide, by decide, by decide +kernel⟩, kw_298, tm_sel (n := 2) (List.mem_append_left _ (List.mem_of_getElem? (i := 4) rfl))⟩
abbrev y_TM_requireEnded : MethodName := { cls := "TrimmedMachine", name := "requireEnded", desc := "()V" }
abbrev b_TM_requireEnded : ByteArray := prog_1_method_16_code
theorem ki_TM_requireEnded : tm_ki y_TM_requireEnded b_TM_requireEnded 1 none 0 := ⟨⟨kw_1, kw_557, by decide, by decide, by decide +kernel⟩, kw_556, tm_sel (n := 2) (List.mem_append_right _ (List.mem_append_right _ (List.mem_append_left _ (List.mem_of_getElem? (i := 4) rfl))))⟩
abbrev y_TM_heightAbove : MethodName := { cls := "TrimmedMachine", name := "heightAbove", desc := "(I)I" }
abbrev b_TM_heightAbove : ByteArray := prog_1_method_17_code
theorem ki_TM_heightAbove : tm_ki y_TM_heightAbove b_TM_heightAbove 3 (some .int) 1 := ⟨⟨kw_1, kw_295, by decide, by decide, by decide +kernel⟩, kw_294, tm_sel (n := 2) (List.mem_append_left _ (List.mem_of_getElem? (i := 3) rfl))⟩
abbrev y_TM_addExpression : MethodName := { cls := "TrimmedMachine", name := "addExpression", desc := "(IIIIII)I" }
abbrev b_TM_addExpression : ByteArray := prog_1_method_18_code
theorem ki_TM_addExpression : tm_ki y_TM_addExpression b_TM_addExpression 8 (some .int) 6 := ⟨⟨kw_1, kw_187, by decide, by decide, by decide +kernel⟩, kw_186, tm_sel (n := 2) (List.mem_append_left _ (List.mem_of_getElem? (i := 0) rfl))⟩
abbrev y_TM_number : MethodName := { cls := "TrimmedMachine", name := "number", desc := "(I)I" }
abbrev b_TM_number : ByteArray := prog_1_method_2_code
theorem ki_TM_number : tm_ki y_TM_number b_TM_number 2 (some .int) 1 := ⟨⟨kw_1, kw_183, by decide, by decide, by decide +kernel⟩, kw_181, kw_182⟩
abbrev y_TM_variable : MethodName := { cls := "TrimmedMachine", name := "variable", desc := "(I)I" }
abbrev b_TM_variable : ByteArray := prog_1_method_3_code
theorem ki_TM_variable : tm_ki y_TM_variable b_TM_variable 2 (some .int) 1 := ⟨⟨kw_1, kw_264, by decide, by decide, by decide +kernel⟩, kw_262, kw_263⟩
abbrev y_TM_function : MethodName := { cls := "TrimmedMachine", name := "function", desc := "(III)I" }
abbrev b_TM_function : ByteArray := prog_1_method_4_code
theorem ki_TM_function : tm_ki y_TM_function b_TM_function 6 (some .int) 3 := ⟨⟨kw_1, kw_291, by decide, by decide, by decide +kernel⟩, kw_289, kw_290⟩
abbrev y_TM_call : MethodName := { cls := "TrimmedMachine", name := "call", desc := "(II)I" }
abbrev b_TM_call : ByteArray := prog_1_method_5_code
theorem ki_TM_call : tm_ki y_TM_call b_TM_call 5 (some .int) 2 := ⟨⟨kw_1, kw_308, by decide, by decide, by decide +kernel⟩, kw_306, kw_307⟩
abbrev y_TM_operation : MethodName := { cls := "TrimmedMachine", name := "operation", desc := "(III)I" }
abbrev b_TM_operation : ByteArray := prog_1_method_6_code
theorem ki_TM_operation : tm_ki y_TM_operation b_TM_operation 6 (some .int) 3 := ⟨⟨kw_1, kw_318, by decide, by decide, by decide +kernel⟩, kw_316, kw_317⟩
abbrev y_TM_choice : MethodName := { cls := "TrimmedMachine", name := "choice", desc := "(III)I" }
abbrev b_TM_choice : ByteArray := prog_1_method_7_code
theorem ki_TM_choice : tm_ki y_TM_choice b_TM_choice 6 (some .int) 3 := ⟨⟨kw_1, kw_326, by decide, by decide, by decide +kernel⟩, kw_324, kw_325⟩
abbrev y_TM_free : MethodName := { cls := "TrimmedMachine", name := "free", desc := "(I)I" }
abbrev b_TM_free : ByteArray := prog_1_method_8_code
theorem ki_TM_free : tm_ki y_TM_free b_TM_free 2 (some .int) 1 := ⟨⟨kw_1, kw_333, by decide, by decide, by decide +kernel⟩, kw_331, kw_332⟩
abbrev y_TM_result : MethodName := { cls := "TrimmedMachine", name := "result", desc := "()I" }
abbrev b_TM_result : ByteArray := prog_1_method_12_code
theorem ki_TM_result : tm_ki y_TM_result b_TM_result 1 (some .int) 0 := ⟨⟨kw_1, kw_553, by decide, by decide, by decide +kernel⟩, kw_551, kw_552⟩
abbrev y_TM_isClosure : MethodName := { cls := "TrimmedMachine", name := "isClosure", desc := "()Z" }
abbrev b_TM_isClosure : ByteArray := prog_1_method_13_code
theorem ki_TM_isClosure : tm_ki y_TM_isClosure b_TM_isClosure 1 (some .boolean) 0 := ⟨⟨kw_1, kw_565, by decide, by decide, by decide +kernel⟩, kw_563, kw_564⟩
theorem ta_TM_51 : ∀ w ∈ vx_atS "TrimmedMachine" 51 "java/lang/IllegalArgumentException" tx_nm, w ∈ tm_wa ∨ w ∈ tm_nw := tx_at (by decide +kernel)
theorem ta_TM_114 : ∀ w ∈ vx_atS "TrimmedMachine" 114 "java/lang/IllegalStateException" tx_nm, w ∈ tm_wa ∨ w ∈ tm_nw := tx_at (by decide +kernel)
abbrev cs_np (u : tm_SC) (e : Int32) : Prop := e < 0 ∨ u.1 11 ≤ e
theorem cs_pt1 {u : tm_SC} {e : Int32} {n : Nat} (h : ¬ cs_np u e) (hn : u.1 11 = nI n) (h2 : n ≤ 100) : e.toNatClampNeg < 100 ∧ e = nI e.toNatClampNeg := by
  have a : ¬ e < 0 := fun q => h (Or.inl q)
  have b : ¬ u.1 11 ≤ e := fun q => h (Or.inr q)
  have hv : vp_in e 100 := by
    rw [vp_in_iff]
    rw [hn, Int32.le_iff_toInt_le, nI_toInt (by omega)] at b
    rw [Int32.lt_iff_toInt_lt, Int32.toInt_zero] at a
    omega
  exact tm_vin hv (by decide)
abbrev cs_hb (u : tm_SC) (e : Int32) : Prop := cs_np u e ∨ 10 < u.2.1 5 e.toNatClampNeg + 1
def cs_add (u : tm_SC) (n : Nat) (k a b c f h : Int32) : tm_SC := tm_sf (tm_sa (tm_sa (tm_sa (tm_sa (tm_sa (tm_sa u 0 n k) 1 n a) 2 n b) 3 n c) 4 n f) 5 n h) 11 (nI (n + 1))
def cs_mx (a b : Int32) : Int32 := if a < b then b else a
def cs_fun (u : tm_SC) (n : Nat) (s v b : Int32) : tm_SC := cs_add u n 2 b v s (u.2.1 4 b.toNatClampNeg &&& ((if s = -1 then 1 <<< (v &&& 31) else (1 <<< (v &&& 31)) ||| (1 <<< (s &&& 31))) ^^^ (-1))) (u.2.1 5 b.toNatClampNeg + 1)
theorem d_TM_requireVariable_0 : decode b_TM_requireVariable 0 = .ok (.iload_n 1, 1) := by decide +kernel
theorem d_TM_requireVariable_1 : decode b_TM_requireVariable 1 = .ok (.ifCond .lt 9, 3) := by decide +kernel
theorem d_TM_requireVariable_4 : decode b_TM_requireVariable 4 = .ok (.iload_n 1, 1) := by decide +kernel
theorem d_TM_requireVariable_5 : decode b_TM_requireVariable 5 = .ok (.bipush 8, 2) := by decide +kernel
theorem d_TM_requireVariable_7 : decode b_TM_requireVariable 7 = .ok (.if_icmp .lt 13, 3) := by decide +kernel
theorem d_TM_requireVariable_10 : decode b_TM_requireVariable 10 = .ok (.new 47, 3) := by decide +kernel
theorem d_TM_requireVariable_13 : decode b_TM_requireVariable 13 = .ok (.dup, 1) := by decide +kernel
theorem d_TM_requireVariable_14 : decode b_TM_requireVariable 14 = .ok (.ldc 103, 2) := by decide +kernel
theorem d_TM_requireVariable_16 : decode b_TM_requireVariable 16 = .ok (.invokespecial 51, 3) := by decide +kernel
theorem d_TM_requireVariable_19 : decode b_TM_requireVariable 19 = .ok (.athrow, 1) := by decide +kernel
theorem d_TM_requireVariable_20 : decode b_TM_requireVariable 20 = .ok (.return_, 1) := by decide +kernel
set_option maxHeartbeats 4000000 in
set_option maxRecDepth 100000 in
theorem c_TM_requireVariable (l : Launch) (D : va_G) (cI cL cZ : ClassId) (ad : Nat → Nat) (hst : l.stackTraces = false) (v : Int32) (u : tm_SC)  : tx_V l y_TM_requireVariable b_TM_requireVariable 2 ({ frames := 6, cells := 1, slots := 6, locals := 90 } : Room) D (tm_yC cI cL cZ) (tm_wC ad cI cL cZ) [.ref (ad 0), .int (v)] u (fun u' => u' = u ∧ ¬ (v < 0 ∨ 8 ≤ v)) (fun E u' => E = "java/lang/IllegalArgumentException" ∧ u' = u ∧ (v < 0 ∨ 8 ≤ v)) := by
  intro sz
  refine tx_of (Qc := fun A => va_Qv (fun u' => u' = u ∧ ¬ (v < 0 ∨ 8 ≤ v)) (fun u' t => tm_B D (tm_yC cI cL cZ) A (tm_wC ad cI cL cZ u') t) A) (XC := fun A => tx_X D (tm_yC cI cL cZ) (tm_wC ad cI cL cZ) A (fun E u' => E = "java/lang/IllegalArgumentException" ∧ u' = u ∧ (v < 0 ∨ 8 ≤ v))) (by decide) (Nat.le_of_ble_eq_true rfl) ?_ sz
  intro pg eg sg mg bel met cg A ls X h hl hE htab
  have hx := X.1.1
  have hb := X.1.2.1
  have hl : lv_has ls 2 [(0, .ref (ad 0)), (1, .int (v))] := hl
  refine lv_iload_n hx hb d_TM_requireVariable_0 rfl (lv_at hl 1 rfl) ?_
  refine lv_if_lt hx hb d_TM_requireVariable_1 (tgt := 10) rfl (fun h1t => ?_) (fun h1f => ?_)
  · exact tx_throw (w := tm_wC ad cI cL cZ) (u := u) (cls := "java/lang/IllegalArgumentException") (text := "no such variable") X htab hE hst h (by decide) kw_269 kw_11 (List.mem_of_getElem? (i := 1) rfl) ta_TM_51 (by decide +kernel) hl.1 d_TM_requireVariable_10 d_TM_requireVariable_13 d_TM_requireVariable_14 d_TM_requireVariable_16 d_TM_requireVariable_19 (by decide) (Nat.le_of_ble_eq_true rfl) (by decide) (by decide) (⟨rfl, rfl, Or.inl h1t⟩)
  · refine lv_iload_n hx hb d_TM_requireVariable_4 rfl (lv_at hl 1 rfl) ?_
    refine lv_bipush (v := 8) hx hb d_TM_requireVariable_5 (by decide) ?_
    refine lv_icmp_lt hx hb d_TM_requireVariable_7 (tgt := 20) rfl (fun h7t => ?_) (fun h7f => ?_)
    · exact tx_vret (w := tm_wC ad cI cL cZ) (u := u) X h (⟨rfl, fun q => q.elim h1f (Int32.not_le.mpr h7t)⟩) d_TM_requireVariable_20
    · exact tx_throw (w := tm_wC ad cI cL cZ) (u := u) (cls := "java/lang/IllegalArgumentException") (text := "no such variable") X htab hE hst h (by decide) kw_269 kw_11 (List.mem_of_getElem? (i := 1) rfl) ta_TM_51 (by decide +kernel) hl.1 d_TM_requireVariable_10 d_TM_requireVariable_13 d_TM_requireVariable_14 d_TM_requireVariable_16 d_TM_requireVariable_19 (by decide) (Nat.le_of_ble_eq_true rfl) (by decide) (by decide) (⟨rfl, rfl, Or.inr (Int32.not_lt.mp h7f)⟩)
theorem d_TM_requireExpression_0 : decode b_TM_requireExpression 0 = .ok (.iload_n 1, 1) := by decide +kernel
theorem d_TM_requireExpression_1 : decode b_TM_requireExpression 1 = .ok (.ifCond .lt 14, 3) := by decide +kernel
theorem d_TM_requireExpression_4 : decode b_TM_requireExpression 4 = .ok (.iload_n 1, 1) := by decide +kernel
theorem d_TM_requireExpression_5 : decode b_TM_requireExpression 5 = .ok (.aload_n 0, 1) := by decide +kernel
theorem d_TM_requireExpression_6 : decode b_TM_requireExpression 6 = .ok (.getfield 10, 3) := by decide +kernel
theorem d_TM_requireExpression_9 : decode b_TM_requireExpression 9 = .ok (.getfield 105, 3) := by decide +kernel
theorem d_TM_requireExpression_12 : decode b_TM_requireExpression 12 = .ok (.if_icmp .lt 13, 3) := by decide +kernel
theorem d_TM_requireExpression_15 : decode b_TM_requireExpression 15 = .ok (.new 47, 3) := by decide +kernel
theorem d_TM_requireExpression_18 : decode b_TM_requireExpression 18 = .ok (.dup, 1) := by decide +kernel
theorem d_TM_requireExpression_19 : decode b_TM_requireExpression 19 = .ok (.ldc 108, 2) := by decide +kernel
theorem d_TM_requireExpression_21 : decode b_TM_requireExpression 21 = .ok (.invokespecial 51, 3) := by decide +kernel
theorem d_TM_requireExpression_24 : decode b_TM_requireExpression 24 = .ok (.athrow, 1) := by decide +kernel
theorem d_TM_requireExpression_25 : decode b_TM_requireExpression 25 = .ok (.return_, 1) := by decide +kernel
set_option maxHeartbeats 4000000 in
set_option maxRecDepth 100000 in
theorem c_TM_requireExpression (l : Launch) (D : va_G) (cI cL cZ : ClassId) (ad : Nat → Nat) (hst : l.stackTraces = false) (e : Int32) (u : tm_SC)  : tx_V l y_TM_requireExpression b_TM_requireExpression 2 ({ frames := 6, cells := 1, slots := 6, locals := 90 } : Room) D (tm_yC cI cL cZ) (tm_wC ad cI cL cZ) [.ref (ad 0), .int (e)] u (fun u' => u' = u ∧ ¬ cs_np u e) (fun E u' => E = "java/lang/IllegalArgumentException" ∧ u' = u ∧ cs_np u e) := by
  intro sz
  refine tx_of (Qc := fun A => va_Qv (fun u' => u' = u ∧ ¬ cs_np u e) (fun u' t => tm_B D (tm_yC cI cL cZ) A (tm_wC ad cI cL cZ u') t) A) (XC := fun A => tx_X D (tm_yC cI cL cZ) (tm_wC ad cI cL cZ) A (fun E u' => E = "java/lang/IllegalArgumentException" ∧ u' = u ∧ cs_np u e)) (by decide) (Nat.le_of_ble_eq_true rfl) ?_ sz
  intro pg eg sg mg bel met cg A ls X h hl hE htab
  have hx := X.1.1
  have hb := X.1.2.1
  have hl : lv_has ls 2 [(0, .ref (ad 0)), (1, .int (e))] := hl
  refine lv_iload_n hx hb d_TM_requireExpression_0 rfl (lv_at hl 1 rfl) ?_
  refine lv_if_lt hx hb d_TM_requireExpression_1 (tgt := 15) rfl (fun h1t => ?_) (fun h1f => ?_)
  · exact tx_throw (w := tm_wC ad cI cL cZ) (u := u) (cls := "java/lang/IllegalArgumentException") (text := "no such expression") X htab hE hst h (by decide) kw_269 kw_11 (List.mem_of_getElem? (i := 2) rfl) ta_TM_51 (by decide +kernel) hl.1 d_TM_requireExpression_15 d_TM_requireExpression_18 d_TM_requireExpression_19 d_TM_requireExpression_21 d_TM_requireExpression_24 (by decide) (Nat.le_of_ble_eq_true rfl) (by decide) (by decide) (⟨rfl, rfl, Or.inl h1t⟩)
  · refine lv_iload_n hx hb d_TM_requireExpression_4 rfl (lv_at hl 1 rfl) ?_
    refine lv_aload_n hx hb d_TM_requireExpression_5 rfl (lv_at hl 0 rfl) ?_
    refine tm_get X h uw_TM 0 rfl rfl 0 (by decide) kw_165 rfl rfl d_TM_requireExpression_6 ?_
    refine tm_getN X h uw_EX 1 rfl rfl 6 (by decide) kw_49 rfl rfl d_TM_requireExpression_9 ?_
    refine lv_icmp_lt hx hb d_TM_requireExpression_12 (tgt := 25) rfl (fun h12t => ?_) (fun h12f => ?_)
    · exact tx_vret (w := tm_wC ad cI cL cZ) (u := u) X h (⟨rfl, fun q => q.elim h1f (Int32.not_le.mpr h12t)⟩) d_TM_requireExpression_25
    · exact tx_throw (w := tm_wC ad cI cL cZ) (u := u) (cls := "java/lang/IllegalArgumentException") (text := "no such expression") X htab hE hst h (by decide) kw_269 kw_11 (List.mem_of_getElem? (i := 2) rfl) ta_TM_51 (by decide +kernel) hl.1 d_TM_requireExpression_15 d_TM_requireExpression_18 d_TM_requireExpression_19 d_TM_requireExpression_21 d_TM_requireExpression_24 (by decide) (Nat.le_of_ble_eq_true rfl) (by decide) (by decide) (⟨rfl, rfl, Or.inr (Int32.not_lt.mp h12f)⟩)
theorem d_TM_requireEnded_0 : decode b_TM_requireEnded 0 = .ok (.aload_n 0, 1) := by decide +kernel
theorem d_TM_requireEnded_1 : decode b_TM_requireEnded 1 = .ok (.getfield 21, 3) := by decide +kernel
theorem d_TM_requireEnded_4 : decode b_TM_requireEnded 4 = .ok (.getfield 65, 3) := by decide +kernel
theorem d_TM_requireEnded_7 : decode b_TM_requireEnded 7 = .ok (.iconst 2, 1) := by decide +kernel
theorem d_TM_requireEnded_8 : decode b_TM_requireEnded 8 = .ok (.if_icmp .eq 13, 3) := by decide +kernel
theorem d_TM_requireEnded_11 : decode b_TM_requireEnded 11 = .ok (.new 110, 3) := by decide +kernel
theorem d_TM_requireEnded_14 : decode b_TM_requireEnded 14 = .ok (.dup, 1) := by decide +kernel
theorem d_TM_requireEnded_15 : decode b_TM_requireEnded 15 = .ok (.ldc 112, 2) := by decide +kernel
theorem d_TM_requireEnded_17 : decode b_TM_requireEnded 17 = .ok (.invokespecial 114, 3) := by decide +kernel
theorem d_TM_requireEnded_20 : decode b_TM_requireEnded 20 = .ok (.athrow, 1) := by decide +kernel
theorem d_TM_requireEnded_21 : decode b_TM_requireEnded 21 = .ok (.return_, 1) := by decide +kernel
set_option maxHeartbeats 4000000 in
set_option maxRecDepth 100000 in
theorem c_TM_requireEnded (l : Launch) (D : va_G) (cI cL cZ : ClassId) (ad : Nat → Nat) (hst : l.stackTraces = false)  (u : tm_SC)  : tx_V l y_TM_requireEnded b_TM_requireEnded 1 ({ frames := 6, cells := 1, slots := 6, locals := 90 } : Room) D (tm_yC cI cL cZ) (tm_wC ad cI cL cZ) [.ref (ad 0)] u (fun u' => u' = u ∧ u.1 1 = 2) (fun E u' => E = "java/lang/IllegalStateException" ∧ u' = u ∧ ¬ u.1 1 = 2) := by
  intro sz
  refine tx_of (Qc := fun A => va_Qv (fun u' => u' = u ∧ u.1 1 = 2) (fun u' t => tm_B D (tm_yC cI cL cZ) A (tm_wC ad cI cL cZ u') t) A) (XC := fun A => tx_X D (tm_yC cI cL cZ) (tm_wC ad cI cL cZ) A (fun E u' => E = "java/lang/IllegalStateException" ∧ u' = u ∧ ¬ u.1 1 = 2)) (by decide) (Nat.le_of_ble_eq_true rfl) ?_ sz
  intro pg eg sg mg bel met cg A ls X h hl hE htab
  have hx := X.1.1
  have hb := X.1.2.1
  have hl : lv_has ls 1 [(0, .ref (ad 0))] := hl
  refine lv_aload_n hx hb d_TM_requireEnded_0 rfl (lv_at hl 0 rfl) ?_
  refine tm_get X h uw_TM 0 rfl rfl 1 (by decide) kw_166 rfl rfl d_TM_requireEnded_1 ?_
  refine tm_getN X h uw_RN 8 rfl rfl 6 (by decide) kw_120 rfl rfl d_TM_requireEnded_4 ?_
  refine lv_iconst (v := 2) hx hb d_TM_requireEnded_7 (by decide) ?_
  refine lv_icmp_eq hx hb d_TM_requireEnded_8 (tgt := 21) rfl (fun h8t => ?_) (fun h8f => ?_)
  · exact tx_vret (w := tm_wC ad cI cL cZ) (u := u) X h (⟨rfl, h8t⟩) d_TM_requireEnded_21
  · exact tx_throw (w := tm_wC ad cI cL cZ) (u := u) (cls := "java/lang/IllegalStateException") (text := "the run begun last has not ended") X htab hE hst h (by decide) kw_188 kw_10 (List.mem_of_getElem? (i := 13) rfl) ta_TM_114 (by decide +kernel) hl.1 d_TM_requireEnded_11 d_TM_requireEnded_14 d_TM_requireEnded_15 d_TM_requireEnded_17 d_TM_requireEnded_20 (by decide) (Nat.le_of_ble_eq_true rfl) (by decide) (by decide) (⟨rfl, rfl, h8f⟩)
theorem d_TM_heightAbove_0 : decode b_TM_heightAbove 0 = .ok (.aload_n 0, 1) := by decide +kernel
theorem d_TM_heightAbove_1 : decode b_TM_heightAbove 1 = .ok (.iload_n 1, 1) := by decide +kernel
theorem d_TM_heightAbove_2 : decode b_TM_heightAbove 2 = .ok (.invokevirtual 54, 3) := by decide +kernel
theorem d_TM_heightAbove_5 : decode b_TM_heightAbove 5 = .ok (.aload_n 0, 1) := by decide +kernel
theorem d_TM_heightAbove_6 : decode b_TM_heightAbove 6 = .ok (.getfield 10, 3) := by decide +kernel
theorem d_TM_heightAbove_9 : decode b_TM_heightAbove 9 = .ok (.getfield 115, 3) := by decide +kernel
theorem d_TM_heightAbove_12 : decode b_TM_heightAbove 12 = .ok (.iload_n 1, 1) := by decide +kernel
theorem d_TM_heightAbove_13 : decode b_TM_heightAbove 13 = .ok (.iaload, 1) := by decide +kernel
theorem d_TM_heightAbove_14 : decode b_TM_heightAbove 14 = .ok (.iconst 1, 1) := by decide +kernel
theorem d_TM_heightAbove_15 : decode b_TM_heightAbove 15 = .ok (.iadd, 1) := by decide +kernel
theorem d_TM_heightAbove_16 : decode b_TM_heightAbove 16 = .ok (.istore_n 2, 1) := by decide +kernel
theorem d_TM_heightAbove_17 : decode b_TM_heightAbove 17 = .ok (.iload_n 2, 1) := by decide +kernel
theorem d_TM_heightAbove_18 : decode b_TM_heightAbove 18 = .ok (.bipush 10, 2) := by decide +kernel
theorem d_TM_heightAbove_20 : decode b_TM_heightAbove 20 = .ok (.if_icmp .le 13, 3) := by decide +kernel
theorem d_TM_heightAbove_23 : decode b_TM_heightAbove 23 = .ok (.new 47, 3) := by decide +kernel
theorem d_TM_heightAbove_26 : decode b_TM_heightAbove 26 = .ok (.dup, 1) := by decide +kernel
theorem d_TM_heightAbove_27 : decode b_TM_heightAbove 27 = .ok (.ldc 118, 2) := by decide +kernel
theorem d_TM_heightAbove_29 : decode b_TM_heightAbove 29 = .ok (.invokespecial 51, 3) := by decide +kernel
theorem d_TM_heightAbove_32 : decode b_TM_heightAbove 32 = .ok (.athrow, 1) := by decide +kernel
theorem d_TM_heightAbove_33 : decode b_TM_heightAbove 33 = .ok (.iload_n 2, 1) := by decide +kernel
theorem d_TM_heightAbove_34 : decode b_TM_heightAbove 34 = .ok (.ireturn, 1) := by decide +kernel
set_option maxHeartbeats 4000000 in
set_option maxRecDepth 100000 in
theorem c_TM_heightAbove (l : Launch) (D : va_G) (cI cL cZ : ClassId) (ad : Nat → Nat) (hst : l.stackTraces = false) (n : Nat) (e : Int32) (u : tm_SC) (hn : u.1 11 = nI n) (hn2 : n ≤ 100) : tx_I l y_TM_heightAbove b_TM_heightAbove 3 .int ({ frames := 7, cells := 1, slots := 6, locals := 111 } : Room) D (tm_yC cI cL cZ) (tm_wC ad cI cL cZ) [.ref (ad 0), .int (e)] u (fun r u' => (r = (u.2.1 5 e.toNatClampNeg + 1) ∧ u' = u) ∧ ¬ cs_hb u e) (fun E u' => E = "java/lang/IllegalArgumentException" ∧ u' = u ∧ cs_hb u e) := by
  intro sz
  refine tx_of (Qc := fun A => va_Qi (fun r u' => (r = (u.2.1 5 e.toNatClampNeg + 1) ∧ u' = u) ∧ ¬ cs_hb u e) (fun u' t => tm_B D (tm_yC cI cL cZ) A (tm_wC ad cI cL cZ u') t) A) (XC := fun A => tx_X D (tm_yC cI cL cZ) (tm_wC ad cI cL cZ) A (fun E u' => E = "java/lang/IllegalArgumentException" ∧ u' = u ∧ cs_hb u e)) (by decide) (Nat.le_of_ble_eq_true rfl) ?_ sz
  intro pg eg sg mg bel met cg A ls X h hl hE htab
  have hx := X.1.1
  have hb := X.1.2.1
  have hl : lv_has ls 3 [(0, .ref (ad 0)), (1, .int (e))] := hl
  refine lv_aload_n hx hb d_TM_heightAbove_0 rfl (lv_at hl 0 rfl) ?_
  refine lv_iload_n hx hb d_TM_heightAbove_1 rfl (lv_at hl 1 rfl) ?_
  refine tx_cVf X h (tx_rV (q0 := 0) X h hE (c_TM_requireExpression l D cI cL cZ ad hst (e) u  _) ki_TM_requireExpression kw_296 rfl rfl rfl rfl rfl ⟨by decide, by decide⟩ rfl hl.1 rfl (Nat.le_of_ble_eq_true rfl) d_TM_heightAbove_2 ⟨by decide, by decide⟩) (fun E9 u9 q9 ce9 H locs hx9 h e91 e92 e93 => tx_out (w := tm_wC ad cI cL cZ) (u := u9) X htab h e91 e92 e93 (⟨hx9.1, hx9.2.1, Or.inl hx9.2.2⟩)) (fun H locs f2 h => ?_)
  refine lv_aload_n hx hb d_TM_heightAbove_5 rfl (lv_at hl 0 rfl) ?_
  refine tm_get X h uw_TM 0 rfl rfl 0 (by decide) kw_165 rfl rfl d_TM_heightAbove_6 ?_
  refine tm_getN X h uw_EX 1 rfl rfl 5 (by decide) kw_48 rfl rfl d_TM_heightAbove_9 ?_
  refine lv_iload_n hx hb d_TM_heightAbove_12 rfl (lv_at hl 1 rfl) ?_
  refine tm_iald X h 7 0 rfl rfl (e.toNatClampNeg) ((cs_pt1 f2 hn hn2).1) ((cs_pt1 f2 hn hn2).2) (by decide) d_TM_heightAbove_13 ?_
  refine lv_iconst (v := 1) hx hb d_TM_heightAbove_14 (by decide) ?_
  refine lv_iadd hx hb d_TM_heightAbove_15 ?_
  refine lv_istore_n hx hb d_TM_heightAbove_16 rfl hl (by decide) rfl (fun ls (hl : lv_has ls 3 [(2, .int ((((u).2.1 5 (e.toNatClampNeg)) + 1))), (0, .ref (ad 0)), (1, .int (e))]) => ?_)
  refine lv_iload_n hx hb d_TM_heightAbove_17 rfl (lv_at hl 0 rfl) ?_
  refine lv_bipush (v := 10) hx hb d_TM_heightAbove_18 (by decide) ?_
  refine lv_icmp_le hx hb d_TM_heightAbove_20 (tgt := 33) rfl (fun h20t => ?_) (fun h20f => ?_)
  · refine lv_iload_n hx hb d_TM_heightAbove_33 rfl (lv_at hl 0 rfl) ?_
    exact tx_iret (w := tm_wC ad cI cL cZ) (u := u) X h (⟨⟨rfl, rfl⟩, fun q => q.elim f2 (Int32.not_lt.mpr h20t)⟩) d_TM_heightAbove_34
  · exact tx_throw (w := tm_wC ad cI cL cZ) (u := u) (cls := "java/lang/IllegalArgumentException") (text := "too high") X htab hE hst h (by decide) kw_269 kw_11 (List.mem_of_getElem? (i := 3) rfl) ta_TM_51 (by decide +kernel) hl.1 d_TM_heightAbove_23 d_TM_heightAbove_26 d_TM_heightAbove_27 d_TM_heightAbove_29 d_TM_heightAbove_32 (by decide) (Nat.le_of_ble_eq_true rfl) (by decide) (by decide) (⟨rfl, rfl, Or.inr (Int32.not_le.mp h20f)⟩)
theorem d_TM_addExpression_0 : decode b_TM_addExpression 0 = .ok (.aload_n 0, 1) := by decide +kernel
theorem d_TM_addExpression_1 : decode b_TM_addExpression 1 = .ok (.getfield 10, 3) := by decide +kernel
theorem d_TM_addExpression_4 : decode b_TM_addExpression 4 = .ok (.getfield 105, 3) := by decide +kernel
theorem d_TM_addExpression_7 : decode b_TM_addExpression 7 = .ok (.istore 7, 2) := by decide +kernel
theorem d_TM_addExpression_9 : decode b_TM_addExpression 9 = .ok (.iload 7, 2) := by decide +kernel
theorem d_TM_addExpression_11 : decode b_TM_addExpression 11 = .ok (.bipush 100, 2) := by decide +kernel
theorem d_TM_addExpression_13 : decode b_TM_addExpression 13 = .ok (.if_icmp .lt 13, 3) := by decide +kernel
theorem d_TM_addExpression_16 : decode b_TM_addExpression 16 = .ok (.new 110, 3) := by decide +kernel
theorem d_TM_addExpression_19 : decode b_TM_addExpression 19 = .ok (.dup, 1) := by decide +kernel
theorem d_TM_addExpression_20 : decode b_TM_addExpression 20 = .ok (.ldc 120, 2) := by decide +kernel
theorem d_TM_addExpression_22 : decode b_TM_addExpression 22 = .ok (.invokespecial 114, 3) := by decide +kernel
theorem d_TM_addExpression_25 : decode b_TM_addExpression 25 = .ok (.athrow, 1) := by decide +kernel
theorem d_TM_addExpression_26 : decode b_TM_addExpression 26 = .ok (.aload_n 0, 1) := by decide +kernel
theorem d_TM_addExpression_27 : decode b_TM_addExpression 27 = .ok (.getfield 10, 3) := by decide +kernel
theorem d_TM_addExpression_30 : decode b_TM_addExpression 30 = .ok (.getfield 122, 3) := by decide +kernel
theorem d_TM_addExpression_33 : decode b_TM_addExpression 33 = .ok (.iload 7, 2) := by decide +kernel
theorem d_TM_addExpression_35 : decode b_TM_addExpression 35 = .ok (.iload_n 1, 1) := by decide +kernel
theorem d_TM_addExpression_36 : decode b_TM_addExpression 36 = .ok (.iastore, 1) := by decide +kernel
theorem d_TM_addExpression_37 : decode b_TM_addExpression 37 = .ok (.aload_n 0, 1) := by decide +kernel
theorem d_TM_addExpression_38 : decode b_TM_addExpression 38 = .ok (.getfield 10, 3) := by decide +kernel
theorem d_TM_addExpression_41 : decode b_TM_addExpression 41 = .ok (.getfield 125, 3) := by decide +kernel
theorem d_TM_addExpression_44 : decode b_TM_addExpression 44 = .ok (.iload 7, 2) := by decide +kernel
theorem d_TM_addExpression_46 : decode b_TM_addExpression 46 = .ok (.iload_n 2, 1) := by decide +kernel
theorem d_TM_addExpression_47 : decode b_TM_addExpression 47 = .ok (.iastore, 1) := by decide +kernel
theorem d_TM_addExpression_48 : decode b_TM_addExpression 48 = .ok (.aload_n 0, 1) := by decide +kernel
theorem d_TM_addExpression_49 : decode b_TM_addExpression 49 = .ok (.getfield 10, 3) := by decide +kernel
theorem d_TM_addExpression_52 : decode b_TM_addExpression 52 = .ok (.getfield 128, 3) := by decide +kernel
theorem d_TM_addExpression_55 : decode b_TM_addExpression 55 = .ok (.iload 7, 2) := by decide +kernel
theorem d_TM_addExpression_57 : decode b_TM_addExpression 57 = .ok (.iload_n 3, 1) := by decide +kernel
theorem d_TM_addExpression_58 : decode b_TM_addExpression 58 = .ok (.iastore, 1) := by decide +kernel
theorem d_TM_addExpression_59 : decode b_TM_addExpression 59 = .ok (.aload_n 0, 1) := by decide +kernel
theorem d_TM_addExpression_60 : decode b_TM_addExpression 60 = .ok (.getfield 10, 3) := by decide +kernel
theorem d_TM_addExpression_63 : decode b_TM_addExpression 63 = .ok (.getfield 131, 3) := by decide +kernel
theorem d_TM_addExpression_66 : decode b_TM_addExpression 66 = .ok (.iload 7, 2) := by decide +kernel
theorem d_TM_addExpression_68 : decode b_TM_addExpression 68 = .ok (.iload 4, 2) := by decide +kernel
theorem d_TM_addExpression_70 : decode b_TM_addExpression 70 = .ok (.iastore, 1) := by decide +kernel
theorem d_TM_addExpression_71 : decode b_TM_addExpression 71 = .ok (.aload_n 0, 1) := by decide +kernel
theorem d_TM_addExpression_72 : decode b_TM_addExpression 72 = .ok (.getfield 10, 3) := by decide +kernel
theorem d_TM_addExpression_75 : decode b_TM_addExpression 75 = .ok (.getfield 37, 3) := by decide +kernel
theorem d_TM_addExpression_78 : decode b_TM_addExpression 78 = .ok (.iload 7, 2) := by decide +kernel
theorem d_TM_addExpression_80 : decode b_TM_addExpression 80 = .ok (.iload 5, 2) := by decide +kernel
theorem d_TM_addExpression_82 : decode b_TM_addExpression 82 = .ok (.iastore, 1) := by decide +kernel
theorem d_TM_addExpression_83 : decode b_TM_addExpression 83 = .ok (.aload_n 0, 1) := by decide +kernel
theorem d_TM_addExpression_84 : decode b_TM_addExpression 84 = .ok (.getfield 10, 3) := by decide +kernel
theorem d_TM_addExpression_87 : decode b_TM_addExpression 87 = .ok (.getfield 115, 3) := by decide +kernel
theorem d_TM_addExpression_90 : decode b_TM_addExpression 90 = .ok (.iload 7, 2) := by decide +kernel
theorem d_TM_addExpression_92 : decode b_TM_addExpression 92 = .ok (.iload 6, 2) := by decide +kernel
theorem d_TM_addExpression_94 : decode b_TM_addExpression 94 = .ok (.iastore, 1) := by decide +kernel
theorem d_TM_addExpression_95 : decode b_TM_addExpression 95 = .ok (.aload_n 0, 1) := by decide +kernel
theorem d_TM_addExpression_96 : decode b_TM_addExpression 96 = .ok (.getfield 10, 3) := by decide +kernel
theorem d_TM_addExpression_99 : decode b_TM_addExpression 99 = .ok (.iload 7, 2) := by decide +kernel
theorem d_TM_addExpression_101 : decode b_TM_addExpression 101 = .ok (.iconst 1, 1) := by decide +kernel
theorem d_TM_addExpression_102 : decode b_TM_addExpression 102 = .ok (.iadd, 1) := by decide +kernel
theorem d_TM_addExpression_103 : decode b_TM_addExpression 103 = .ok (.putfield 105, 3) := by decide +kernel
theorem d_TM_addExpression_106 : decode b_TM_addExpression 106 = .ok (.iload 7, 2) := by decide +kernel
theorem d_TM_addExpression_108 : decode b_TM_addExpression 108 = .ok (.ireturn, 1) := by decide +kernel
set_option maxHeartbeats 4000000 in
set_option maxRecDepth 100000 in
theorem c_TM_addExpression (l : Launch) (D : va_G) (cI cL cZ : ClassId) (ad : Nat → Nat) (hst : l.stackTraces = false) (n : Nat) (k : Int32) (a : Int32) (b : Int32) (c : Int32) (f : Int32) (hh : Int32) (u : tm_SC) (hn : u.1 11 = nI n) (hn2 : n ≤ 100) : tx_I l y_TM_addExpression b_TM_addExpression 8 .int ({ frames := 6, cells := 1, slots := 6, locals := 90 } : Room) D (tm_yC cI cL cZ) (tm_wC ad cI cL cZ) [.ref (ad 0), .int (k), .int (a), .int (b), .int (c), .int (f), .int (hh)] u (fun r u' => (r = (nI n) ∧ u' = (cs_add u n k a b c f hh)) ∧ n < 100) (fun E u' => E = "java/lang/IllegalStateException" ∧ u' = u ∧ n = 100) := by
  intro sz
  refine tx_of (Qc := fun A => va_Qi (fun r u' => (r = (nI n) ∧ u' = (cs_add u n k a b c f hh)) ∧ n < 100) (fun u' t => tm_B D (tm_yC cI cL cZ) A (tm_wC ad cI cL cZ u') t) A) (XC := fun A => tx_X D (tm_yC cI cL cZ) (tm_wC ad cI cL cZ) A (fun E u' => E = "java/lang/IllegalStateException" ∧ u' = u ∧ n = 100)) (by decide) (Nat.le_of_ble_eq_true rfl) ?_ sz
  intro pg eg sg mg bel met cg A ls X h hl hE htab
  have hx := X.1.1
  have hb := X.1.2.1
  have hl : lv_has ls 8 [(0, .ref (ad 0)), (1, .int (k)), (2, .int (a)), (3, .int (b)), (4, .int (c)), (5, .int (f)), (6, .int (hh))] := hl
  refine lv_aload_n hx hb d_TM_addExpression_0 rfl (lv_at hl 0 rfl) ?_
  refine tm_get X h uw_TM 0 rfl rfl 0 (by decide) kw_165 rfl rfl d_TM_addExpression_1 ?_
  refine tm_getN X h uw_EX 1 rfl rfl 6 (by decide) kw_49 rfl rfl d_TM_addExpression_4 ?_
  refine tm_top (y := nI n) (hn) ?_
  refine lv_istore hx hb d_TM_addExpression_7 hl (by decide) rfl (fun ls (hl : lv_has ls 8 [(7, .int (nI n)), (0, .ref (ad 0)), (1, .int (k)), (2, .int (a)), (3, .int (b)), (4, .int (c)), (5, .int (f)), (6, .int (hh))]) => ?_)
  refine lv_iload hx hb d_TM_addExpression_9 (lv_at hl 0 rfl) ?_
  refine lv_bipush (v := 100) hx hb d_TM_addExpression_11 (by decide) ?_
  refine lv_icmp_lt hx hb d_TM_addExpression_13 (tgt := 26) rfl (fun h13t => ?_) (fun h13f => ?_)
  · have hn3 : n < 100 := (nI_ltI (b := 100) (by omega) (by decide)).mp h13t
    refine lv_aload_n hx hb d_TM_addExpression_26 rfl (lv_at hl 1 rfl) ?_
    refine tm_get X h uw_TM 0 rfl rfl 0 (by decide) kw_165 rfl rfl d_TM_addExpression_27 ?_
    refine tm_getN X h uw_EX 1 rfl rfl 0 (by decide) kw_34 rfl rfl d_TM_addExpression_30 ?_
    refine lv_iload hx hb d_TM_addExpression_33 (lv_at hl 0 rfl) ?_
    refine lv_iload_n hx hb d_TM_addExpression_35 rfl (lv_at hl 2 rfl) ?_
    refine tm_iast X h 2 0 rfl rfl (n) (hn3) (rfl) (by decide) (ws' := tm_wC ad cI cL cZ (tm_sa u 0 (n) (k))) rfl d_TM_addExpression_36 (fun H locs h => ?_)
    refine lv_aload_n hx hb d_TM_addExpression_37 rfl (lv_at hl 1 rfl) ?_
    refine tm_get X h uw_TM 0 rfl rfl 0 (by decide) kw_165 rfl rfl d_TM_addExpression_38 ?_
    refine tm_getN X h uw_EX 1 rfl rfl 1 (by decide) kw_37 rfl rfl d_TM_addExpression_41 ?_
    refine lv_iload hx hb d_TM_addExpression_44 (lv_at hl 0 rfl) ?_
    refine lv_iload_n hx hb d_TM_addExpression_46 rfl (lv_at hl 3 rfl) ?_
    refine tm_iast X h 3 0 rfl rfl (n) (hn3) (rfl) (by decide) (ws' := tm_wC ad cI cL cZ (tm_sa (tm_sa u 0 (n) (k)) 1 (n) (a))) rfl d_TM_addExpression_47 (fun H locs h => ?_)
    refine lv_aload_n hx hb d_TM_addExpression_48 rfl (lv_at hl 1 rfl) ?_
    refine tm_get X h uw_TM 0 rfl rfl 0 (by decide) kw_165 rfl rfl d_TM_addExpression_49 ?_
    refine tm_getN X h uw_EX 1 rfl rfl 2 (by decide) kw_40 rfl rfl d_TM_addExpression_52 ?_
    refine lv_iload hx hb d_TM_addExpression_55 (lv_at hl 0 rfl) ?_
    refine lv_iload_n hx hb d_TM_addExpression_57 rfl (lv_at hl 4 rfl) ?_
    refine tm_iast X h 4 0 rfl rfl (n) (hn3) (rfl) (by decide) (ws' := tm_wC ad cI cL cZ (tm_sa (tm_sa (tm_sa u 0 (n) (k)) 1 (n) (a)) 2 (n) (b))) rfl d_TM_addExpression_58 (fun H locs h => ?_)
    refine lv_aload_n hx hb d_TM_addExpression_59 rfl (lv_at hl 1 rfl) ?_
    refine tm_get X h uw_TM 0 rfl rfl 0 (by decide) kw_165 rfl rfl d_TM_addExpression_60 ?_
    refine tm_getN X h uw_EX 1 rfl rfl 3 (by decide) kw_43 rfl rfl d_TM_addExpression_63 ?_
    refine lv_iload hx hb d_TM_addExpression_66 (lv_at hl 0 rfl) ?_
    refine lv_iload hx hb d_TM_addExpression_68 (lv_at hl 5 rfl) ?_
    refine tm_iast X h 5 0 rfl rfl (n) (hn3) (rfl) (by decide) (ws' := tm_wC ad cI cL cZ (tm_sa (tm_sa (tm_sa (tm_sa u 0 (n) (k)) 1 (n) (a)) 2 (n) (b)) 3 (n) (c))) rfl d_TM_addExpression_70 (fun H locs h => ?_)
    refine lv_aload_n hx hb d_TM_addExpression_71 rfl (lv_at hl 1 rfl) ?_
    refine tm_get X h uw_TM 0 rfl rfl 0 (by decide) kw_165 rfl rfl d_TM_addExpression_72 ?_
    refine tm_getN X h uw_EX 1 rfl rfl 4 (by decide) kw_45 rfl rfl d_TM_addExpression_75 ?_
    refine lv_iload hx hb d_TM_addExpression_78 (lv_at hl 0 rfl) ?_
    refine lv_iload hx hb d_TM_addExpression_80 (lv_at hl 6 rfl) ?_
    refine tm_iast X h 6 0 rfl rfl (n) (hn3) (rfl) (by decide) (ws' := tm_wC ad cI cL cZ (tm_sa (tm_sa (tm_sa (tm_sa (tm_sa u 0 (n) (k)) 1 (n) (a)) 2 (n) (b)) 3 (n) (c)) 4 (n) (f))) rfl d_TM_addExpression_82 (fun H locs h => ?_)
    refine lv_aload_n hx hb d_TM_addExpression_83 rfl (lv_at hl 1 rfl) ?_
    refine tm_get X h uw_TM 0 rfl rfl 0 (by decide) kw_165 rfl rfl d_TM_addExpression_84 ?_
    refine tm_getN X h uw_EX 1 rfl rfl 5 (by decide) kw_48 rfl rfl d_TM_addExpression_87 ?_
    refine lv_iload hx hb d_TM_addExpression_90 (lv_at hl 0 rfl) ?_
    refine lv_iload hx hb d_TM_addExpression_92 (lv_at hl 7 rfl) ?_
    refine tm_iast X h 7 0 rfl rfl (n) (hn3) (rfl) (by decide) (ws' := tm_wC ad cI cL cZ (tm_sa (tm_sa (tm_sa (tm_sa (tm_sa (tm_sa u 0 (n) (k)) 1 (n) (a)) 2 (n) (b)) 3 (n) (c)) 4 (n) (f)) 5 (n) (hh))) rfl d_TM_addExpression_94 (fun H locs h => ?_)
    refine lv_aload_n hx hb d_TM_addExpression_95 rfl (lv_at hl 1 rfl) ?_
    refine tm_get X h uw_TM 0 rfl rfl 0 (by decide) kw_165 rfl rfl d_TM_addExpression_96 ?_
    refine lv_iload hx hb d_TM_addExpression_99 (lv_at hl 0 rfl) ?_
    refine lv_iconst (v := 1) hx hb d_TM_addExpression_101 (by decide) ?_
    refine lv_iadd hx hb d_TM_addExpression_102 ?_
    refine tm_top (y := nI (n + 1)) (nI_1 n) ?_
    refine tm_putN X h uw_EX t_EX t_EX_ok n_EX 1 rfl rfl 6 (by decide) kw_49 rfl rfl (rfl) (rfl) (Nat.le_of_ble_eq_true rfl) (ws' := tm_wC ad cI cL cZ (tm_sf (tm_sa (tm_sa (tm_sa (tm_sa (tm_sa (tm_sa u 0 (n) (k)) 1 (n) (a)) 2 (n) (b)) 3 (n) (c)) 4 (n) (f)) 5 (n) (hh)) 11 (nI (n + 1)))) rfl d_TM_addExpression_103 (fun H locs h => ?_)
    refine lv_iload hx hb d_TM_addExpression_106 (lv_at hl 0 rfl) ?_
    exact tx_iret (w := tm_wC ad cI cL cZ) (u := (tm_sf (tm_sa (tm_sa (tm_sa (tm_sa (tm_sa (tm_sa u 0 (n) (k)) 1 (n) (a)) 2 (n) (b)) 3 (n) (c)) 4 (n) (f)) 5 (n) (hh)) 11 (nI (n + 1)))) X h (⟨⟨rfl, rfl⟩, hn3⟩) d_TM_addExpression_108
  · exact tx_throw (w := tm_wC ad cI cL cZ) (u := u) (cls := "java/lang/IllegalStateException") (text := "no room for another expression") X htab hE hst h (by decide) kw_188 kw_10 (List.mem_of_getElem? (i := 0) rfl) ta_TM_114 (by decide +kernel) hl.1 d_TM_addExpression_16 d_TM_addExpression_19 d_TM_addExpression_20 d_TM_addExpression_22 d_TM_addExpression_25 (by decide) (Nat.le_of_ble_eq_true rfl) (by decide) (by decide) (⟨rfl, rfl, by have : ¬ n < 100 := fun q => h13f ((nI_ltI (b := 100) (by omega) (by decide)).mpr q); omega⟩)
theorem d_TM_number_0 : decode b_TM_number 0 = .ok (.aload_n 0, 1) := by decide +kernel
theorem d_TM_number_1 : decode b_TM_number 1 = .ok (.iconst 0, 1) := by decide +kernel
theorem d_TM_number_2 : decode b_TM_number 2 = .ok (.iload_n 1, 1) := by decide +kernel
theorem d_TM_number_3 : decode b_TM_number 3 = .ok (.iconst 0, 1) := by decide +kernel
theorem d_TM_number_4 : decode b_TM_number 4 = .ok (.iconst 0, 1) := by decide +kernel
theorem d_TM_number_5 : decode b_TM_number 5 = .ok (.iconst 0, 1) := by decide +kernel
theorem d_TM_number_6 : decode b_TM_number 6 = .ok (.iconst 0, 1) := by decide +kernel
theorem d_TM_number_7 : decode b_TM_number 7 = .ok (.invokevirtual 25, 3) := by decide +kernel
theorem d_TM_number_10 : decode b_TM_number 10 = .ok (.ireturn, 1) := by decide +kernel
set_option maxHeartbeats 4000000 in
set_option maxRecDepth 100000 in
theorem c_TM_number (l : Launch) (D : va_G) (cI cL cZ : ClassId) (ad : Nat → Nat) (hst : l.stackTraces = false) (n : Nat) (x : Int32) (u : tm_SC) (hn : u.1 11 = nI n) (hn2 : n ≤ 100) : tx_I l y_TM_number b_TM_number 2 .int ({ frames := 7, cells := 1, slots := 6, locals := 117 } : Room) D (tm_yC cI cL cZ) (tm_wC ad cI cL cZ) [.ref (ad 0), .int (x)] u (fun r u' => (r = (nI n) ∧ u' = (cs_add u n 0 x 0 0 0 0)) ∧ n < 100) (fun E u' => E = "java/lang/IllegalStateException" ∧ u' = u ∧ n = 100) := by
  intro sz
  refine tx_of (Qc := fun A => va_Qi (fun r u' => (r = (nI n) ∧ u' = (cs_add u n 0 x 0 0 0 0)) ∧ n < 100) (fun u' t => tm_B D (tm_yC cI cL cZ) A (tm_wC ad cI cL cZ u') t) A) (XC := fun A => tx_X D (tm_yC cI cL cZ) (tm_wC ad cI cL cZ) A (fun E u' => E = "java/lang/IllegalStateException" ∧ u' = u ∧ n = 100)) (by decide) (Nat.le_of_ble_eq_true rfl) ?_ sz
  intro pg eg sg mg bel met cg A ls X h hl hE htab
  have hx := X.1.1
  have hb := X.1.2.1
  have hl : lv_has ls 2 [(0, .ref (ad 0)), (1, .int (x))] := hl
  refine lv_aload_n hx hb d_TM_number_0 rfl (lv_at hl 0 rfl) ?_
  refine lv_iconst (v := 0) hx hb d_TM_number_1 (by decide) ?_
  refine lv_iload_n hx hb d_TM_number_2 rfl (lv_at hl 1 rfl) ?_
  refine lv_iconst (v := 0) hx hb d_TM_number_3 (by decide) ?_
  refine lv_iconst (v := 0) hx hb d_TM_number_4 (by decide) ?_
  refine lv_iconst (v := 0) hx hb d_TM_number_5 (by decide) ?_
  refine lv_iconst (v := 0) hx hb d_TM_number_6 (by decide) ?_
  refine tx_cIf X h (tx_rV (q0 := 0) X h hE (c_TM_addExpression l D cI cL cZ ad hst (n) (0) (x) (0) (0) (0) (0) u (hn) (hn2) _) ki_TM_addExpression kw_184 rfl rfl rfl rfl rfl ⟨by decide, by decide⟩ rfl hl.1 rfl (Nat.le_of_ble_eq_true rfl) d_TM_number_7 ⟨by decide, by decide⟩) (fun E9 u9 q9 ce9 H locs hx9 h e91 e92 e93 => tx_out (w := tm_wC ad cI cL cZ) (u := u9) X htab h e91 e92 e93 (hx9)) (fun H locs f7 h => ?_)
  exact tx_iret (w := tm_wC ad cI cL cZ) (u := (cs_add u (n) (0) (x) (0) (0) (0) (0))) X h (⟨⟨rfl, rfl⟩, f7⟩) d_TM_number_10
theorem d_TM_variable_0 : decode b_TM_variable 0 = .ok (.aload_n 0, 1) := by decide +kernel
theorem d_TM_variable_1 : decode b_TM_variable 1 = .ok (.iload_n 1, 1) := by decide +kernel
theorem d_TM_variable_2 : decode b_TM_variable 2 = .ok (.invokevirtual 29, 3) := by decide +kernel
theorem d_TM_variable_5 : decode b_TM_variable 5 = .ok (.aload_n 0, 1) := by decide +kernel
theorem d_TM_variable_6 : decode b_TM_variable 6 = .ok (.iconst 1, 1) := by decide +kernel
theorem d_TM_variable_7 : decode b_TM_variable 7 = .ok (.iload_n 1, 1) := by decide +kernel
theorem d_TM_variable_8 : decode b_TM_variable 8 = .ok (.iconst 0, 1) := by decide +kernel
theorem d_TM_variable_9 : decode b_TM_variable 9 = .ok (.iconst 0, 1) := by decide +kernel
theorem d_TM_variable_10 : decode b_TM_variable 10 = .ok (.iconst 1, 1) := by decide +kernel
theorem d_TM_variable_11 : decode b_TM_variable 11 = .ok (.iload_n 1, 1) := by decide +kernel
theorem d_TM_variable_12 : decode b_TM_variable 12 = .ok (.ishl, 1) := by decide +kernel
theorem d_TM_variable_13 : decode b_TM_variable 13 = .ok (.iconst 0, 1) := by decide +kernel
theorem d_TM_variable_14 : decode b_TM_variable 14 = .ok (.invokevirtual 25, 3) := by decide +kernel
theorem d_TM_variable_17 : decode b_TM_variable 17 = .ok (.ireturn, 1) := by decide +kernel
set_option maxHeartbeats 4000000 in
set_option maxRecDepth 100000 in
theorem c_TM_variable (l : Launch) (D : va_G) (cI cL cZ : ClassId) (ad : Nat → Nat) (hst : l.stackTraces = false) (n : Nat) (v : Int32) (u : tm_SC) (hn : u.1 11 = nI n) (hn2 : n ≤ 100) : tx_I l y_TM_variable b_TM_variable 2 .int ({ frames := 7, cells := 1, slots := 6, locals := 117 } : Room) D (tm_yC cI cL cZ) (tm_wC ad cI cL cZ) [.ref (ad 0), .int (v)] u (fun r u' => (r = (nI n) ∧ u' = (cs_add u n 1 v 0 0 (1 <<< (v &&& 31)) 0)) ∧ (¬ (v < 0 ∨ 8 ≤ v) ∧ n < 100)) (fun E u' => (E = "java/lang/IllegalArgumentException" ∧ u' = u ∧ (v < 0 ∨ 8 ≤ v)) ∨ (E = "java/lang/IllegalStateException" ∧ u' = u ∧ ¬ (v < 0 ∨ 8 ≤ v) ∧ n = 100)) := by
  intro sz
  refine tx_of (Qc := fun A => va_Qi (fun r u' => (r = (nI n) ∧ u' = (cs_add u n 1 v 0 0 (1 <<< (v &&& 31)) 0)) ∧ (¬ (v < 0 ∨ 8 ≤ v) ∧ n < 100)) (fun u' t => tm_B D (tm_yC cI cL cZ) A (tm_wC ad cI cL cZ u') t) A) (XC := fun A => tx_X D (tm_yC cI cL cZ) (tm_wC ad cI cL cZ) A (fun E u' => (E = "java/lang/IllegalArgumentException" ∧ u' = u ∧ (v < 0 ∨ 8 ≤ v)) ∨ (E = "java/lang/IllegalStateException" ∧ u' = u ∧ ¬ (v < 0 ∨ 8 ≤ v) ∧ n = 100))) (by decide) (Nat.le_of_ble_eq_true rfl) ?_ sz
  intro pg eg sg mg bel met cg A ls X h hl hE htab
  have hx := X.1.1
  have hb := X.1.2.1
  have hl : lv_has ls 2 [(0, .ref (ad 0)), (1, .int (v))] := hl
  refine lv_aload_n hx hb d_TM_variable_0 rfl (lv_at hl 0 rfl) ?_
  refine lv_iload_n hx hb d_TM_variable_1 rfl (lv_at hl 1 rfl) ?_
  refine tx_cVf X h (tx_rV (q0 := 0) X h hE (c_TM_requireVariable l D cI cL cZ ad hst (v) u  _) ki_TM_requireVariable kw_265 rfl rfl rfl rfl rfl ⟨by decide, by decide⟩ rfl hl.1 rfl (Nat.le_of_ble_eq_true rfl) d_TM_variable_2 ⟨by decide, by decide⟩) (fun E9 u9 q9 ce9 H locs hx9 h e91 e92 e93 => tx_out (w := tm_wC ad cI cL cZ) (u := u9) X htab h e91 e92 e93 (Or.inl hx9)) (fun H locs f2 h => ?_)
  refine lv_aload_n hx hb d_TM_variable_5 rfl (lv_at hl 0 rfl) ?_
  refine lv_iconst (v := 1) hx hb d_TM_variable_6 (by decide) ?_
  refine lv_iload_n hx hb d_TM_variable_7 rfl (lv_at hl 1 rfl) ?_
  refine lv_iconst (v := 0) hx hb d_TM_variable_8 (by decide) ?_
  refine lv_iconst (v := 0) hx hb d_TM_variable_9 (by decide) ?_
  refine lv_iconst (v := 1) hx hb d_TM_variable_10 (by decide) ?_
  refine lv_iload_n hx hb d_TM_variable_11 rfl (lv_at hl 1 rfl) ?_
  refine lv_ishl hx hb d_TM_variable_12 ?_
  refine lv_iconst (v := 0) hx hb d_TM_variable_13 (by decide) ?_
  refine tx_cIf X h (tx_rV (q0 := 0) X h hE (c_TM_addExpression l D cI cL cZ ad hst (n) (1) (v) (0) (0) ((1 <<< (v &&& 31))) (0) u (hn) (hn2) _) ki_TM_addExpression kw_184 rfl rfl rfl rfl rfl ⟨by decide, by decide⟩ rfl hl.1 rfl (Nat.le_of_ble_eq_true rfl) d_TM_variable_14 ⟨by decide, by decide⟩) (fun E9 u9 q9 ce9 H locs hx9 h e91 e92 e93 => tx_out (w := tm_wC ad cI cL cZ) (u := u9) X htab h e91 e92 e93 (Or.inr ⟨hx9.1, hx9.2.1, f2, hx9.2.2⟩)) (fun H locs f14 h => ?_)
  exact tx_iret (w := tm_wC ad cI cL cZ) (u := (cs_add u (n) (1) (v) (0) (0) ((1 <<< (v &&& 31))) (0))) X h (⟨⟨rfl, rfl⟩, f2, f14⟩) d_TM_variable_17
theorem d_TM_function_0 : decode b_TM_function 0 = .ok (.iload_n 1, 1) := by decide +kernel
theorem d_TM_function_1 : decode b_TM_function 1 = .ok (.iconst (-1), 1) := by decide +kernel
theorem d_TM_function_2 : decode b_TM_function 2 = .ok (.if_icmp .eq 8, 3) := by decide +kernel
theorem d_TM_function_5 : decode b_TM_function 5 = .ok (.aload_n 0, 1) := by decide +kernel
theorem d_TM_function_6 : decode b_TM_function 6 = .ok (.iload_n 1, 1) := by decide +kernel
theorem d_TM_function_7 : decode b_TM_function 7 = .ok (.invokevirtual 29, 3) := by decide +kernel
theorem d_TM_function_10 : decode b_TM_function 10 = .ok (.aload_n 0, 1) := by decide +kernel
theorem d_TM_function_11 : decode b_TM_function 11 = .ok (.iload_n 2, 1) := by decide +kernel
theorem d_TM_function_12 : decode b_TM_function 12 = .ok (.invokevirtual 29, 3) := by decide +kernel
theorem d_TM_function_15 : decode b_TM_function 15 = .ok (.aload_n 0, 1) := by decide +kernel
theorem d_TM_function_16 : decode b_TM_function 16 = .ok (.iload_n 3, 1) := by decide +kernel
theorem d_TM_function_17 : decode b_TM_function 17 = .ok (.invokevirtual 33, 3) := by decide +kernel
theorem d_TM_function_20 : decode b_TM_function 20 = .ok (.istore 4, 2) := by decide +kernel
theorem d_TM_function_22 : decode b_TM_function 22 = .ok (.iload_n 1, 1) := by decide +kernel
theorem d_TM_function_23 : decode b_TM_function 23 = .ok (.iconst (-1), 1) := by decide +kernel
theorem d_TM_function_24 : decode b_TM_function 24 = .ok (.if_icmp .ne 9, 3) := by decide +kernel
theorem d_TM_function_27 : decode b_TM_function 27 = .ok (.iconst 1, 1) := by decide +kernel
theorem d_TM_function_28 : decode b_TM_function 28 = .ok (.iload_n 2, 1) := by decide +kernel
theorem d_TM_function_29 : decode b_TM_function 29 = .ok (.ishl, 1) := by decide +kernel
theorem d_TM_function_30 : decode b_TM_function 30 = .ok (.goto 10, 3) := by decide +kernel
theorem d_TM_function_33 : decode b_TM_function 33 = .ok (.iconst 1, 1) := by decide +kernel
theorem d_TM_function_34 : decode b_TM_function 34 = .ok (.iload_n 2, 1) := by decide +kernel
theorem d_TM_function_35 : decode b_TM_function 35 = .ok (.ishl, 1) := by decide +kernel
theorem d_TM_function_36 : decode b_TM_function 36 = .ok (.iconst 1, 1) := by decide +kernel
theorem d_TM_function_37 : decode b_TM_function 37 = .ok (.iload_n 1, 1) := by decide +kernel
theorem d_TM_function_38 : decode b_TM_function 38 = .ok (.ishl, 1) := by decide +kernel
theorem d_TM_function_39 : decode b_TM_function 39 = .ok (.ior, 1) := by decide +kernel
theorem d_TM_function_40 : decode b_TM_function 40 = .ok (.istore 5, 2) := by decide +kernel
theorem d_TM_function_42 : decode b_TM_function 42 = .ok (.aload_n 0, 1) := by decide +kernel
theorem d_TM_function_43 : decode b_TM_function 43 = .ok (.iconst 2, 1) := by decide +kernel
theorem d_TM_function_44 : decode b_TM_function 44 = .ok (.iload_n 3, 1) := by decide +kernel
theorem d_TM_function_45 : decode b_TM_function 45 = .ok (.iload_n 2, 1) := by decide +kernel
theorem d_TM_function_46 : decode b_TM_function 46 = .ok (.iload_n 1, 1) := by decide +kernel
theorem d_TM_function_47 : decode b_TM_function 47 = .ok (.aload_n 0, 1) := by decide +kernel
theorem d_TM_function_48 : decode b_TM_function 48 = .ok (.getfield 10, 3) := by decide +kernel
theorem d_TM_function_51 : decode b_TM_function 51 = .ok (.getfield 37, 3) := by decide +kernel
theorem d_TM_function_54 : decode b_TM_function 54 = .ok (.iload_n 3, 1) := by decide +kernel
theorem d_TM_function_55 : decode b_TM_function 55 = .ok (.iaload, 1) := by decide +kernel
theorem d_TM_function_56 : decode b_TM_function 56 = .ok (.iload 5, 2) := by decide +kernel
theorem d_TM_function_58 : decode b_TM_function 58 = .ok (.iconst (-1), 1) := by decide +kernel
theorem d_TM_function_59 : decode b_TM_function 59 = .ok (.ixor, 1) := by decide +kernel
theorem d_TM_function_60 : decode b_TM_function 60 = .ok (.iand, 1) := by decide +kernel
theorem d_TM_function_61 : decode b_TM_function 61 = .ok (.iload 4, 2) := by decide +kernel
theorem d_TM_function_63 : decode b_TM_function 63 = .ok (.invokevirtual 25, 3) := by decide +kernel
theorem d_TM_function_66 : decode b_TM_function 66 = .ok (.ireturn, 1) := by decide +kernel
set_option maxHeartbeats 4000000 in
set_option maxRecDepth 100000 in
theorem c_TM_function (l : Launch) (D : va_G) (cI cL cZ : ClassId) (ad : Nat → Nat) (hst : l.stackTraces = false) (n : Nat) (s : Int32) (v : Int32) (b : Int32) (u : tm_SC) (hn : u.1 11 = nI n) (hn2 : n ≤ 100) : tx_I l y_TM_function b_TM_function 6 .int ({ frames := 8, cells := 1, slots := 6, locals := 133 } : Room) D (tm_yC cI cL cZ) (tm_wC ad cI cL cZ) [.ref (ad 0), .int (s), .int (v), .int (b)] u (fun r u' => (r = (nI n) ∧ u' = (cs_fun u n s v b)) ∧ (¬ ((¬ s = -1 ∧ (s < 0 ∨ 8 ≤ s)) ∨ (v < 0 ∨ 8 ≤ v) ∨ cs_hb u b) ∧ n < 100)) (fun E u' => (E = "java/lang/IllegalArgumentException" ∧ u' = u ∧ ((¬ s = -1 ∧ (s < 0 ∨ 8 ≤ s)) ∨ (v < 0 ∨ 8 ≤ v) ∨ cs_hb u b)) ∨ (E = "java/lang/IllegalStateException" ∧ u' = u ∧ ¬ ((¬ s = -1 ∧ (s < 0 ∨ 8 ≤ s)) ∨ (v < 0 ∨ 8 ≤ v) ∨ cs_hb u b) ∧ n = 100)) := by
  intro sz
  refine tx_of (Qc := fun A => va_Qi (fun r u' => (r = (nI n) ∧ u' = (cs_fun u n s v b)) ∧ (¬ ((¬ s = -1 ∧ (s < 0 ∨ 8 ≤ s)) ∨ (v < 0 ∨ 8 ≤ v) ∨ cs_hb u b) ∧ n < 100)) (fun u' t => tm_B D (tm_yC cI cL cZ) A (tm_wC ad cI cL cZ u') t) A) (XC := fun A => tx_X D (tm_yC cI cL cZ) (tm_wC ad cI cL cZ) A (fun E u' => (E = "java/lang/IllegalArgumentException" ∧ u' = u ∧ ((¬ s = -1 ∧ (s < 0 ∨ 8 ≤ s)) ∨ (v < 0 ∨ 8 ≤ v) ∨ cs_hb u b)) ∨ (E = "java/lang/IllegalStateException" ∧ u' = u ∧ ¬ ((¬ s = -1 ∧ (s < 0 ∨ 8 ≤ s)) ∨ (v < 0 ∨ 8 ≤ v) ∨ cs_hb u b) ∧ n = 100))) (by decide) (Nat.le_of_ble_eq_true rfl) ?_ sz
  intro pg eg sg mg bel met cg A ls X h hl hE htab
  have hx := X.1.1
  have hb := X.1.2.1
  have hl : lv_has ls 6 [(0, .ref (ad 0)), (1, .int (s)), (2, .int (v)), (3, .int (b))] := hl
  refine lv_iload_n hx hb d_TM_function_0 rfl (lv_at hl 1 rfl) ?_
  refine lv_iconst (v := -1) hx hb d_TM_function_1 (by decide) ?_
  refine lv_icmp_eq hx hb d_TM_function_2 (tgt := 10) rfl (fun h2t => ?_) (fun h2f => ?_)
  · refine lv_aload_n hx hb d_TM_function_10 rfl (lv_at hl 0 rfl) ?_
    refine lv_iload_n hx hb d_TM_function_11 rfl (lv_at hl 2 rfl) ?_
    refine tx_cVf X h (tx_rV (q0 := 0) X h hE (c_TM_requireVariable l D cI cL cZ ad hst (v) u  _) ki_TM_requireVariable kw_265 rfl rfl rfl rfl rfl ⟨by decide, by decide⟩ rfl hl.1 rfl (Nat.le_of_ble_eq_true rfl) d_TM_function_12 ⟨by decide, by decide⟩) (fun E9 u9 q9 ce9 H locs hx9 h e91 e92 e93 => tx_out (w := tm_wC ad cI cL cZ) (u := u9) X htab h e91 e92 e93 (Or.inl ⟨hx9.1, hx9.2.1, Or.inr (Or.inl hx9.2.2)⟩)) (fun H locs f12 h => ?_)
    refine lv_aload_n hx hb d_TM_function_15 rfl (lv_at hl 0 rfl) ?_
    refine lv_iload_n hx hb d_TM_function_16 rfl (lv_at hl 3 rfl) ?_
    refine tx_cIf X h (tx_rV (q0 := 0) X h hE (c_TM_heightAbove l D cI cL cZ ad hst (n) (b) u (hn) (hn2) _) ki_TM_heightAbove kw_292 rfl rfl rfl rfl rfl ⟨by decide, by decide⟩ rfl hl.1 rfl (Nat.le_of_ble_eq_true rfl) d_TM_function_17 ⟨by decide, by decide⟩) (fun E9 u9 q9 ce9 H locs hx9 h e91 e92 e93 => tx_out (w := tm_wC ad cI cL cZ) (u := u9) X htab h e91 e92 e93 (Or.inl ⟨hx9.1, hx9.2.1, Or.inr (Or.inr hx9.2.2)⟩)) (fun H locs f17 h => ?_)
    refine lv_istore hx hb d_TM_function_20 hl (by decide) rfl (fun ls (hl : lv_has ls 6 [(4, .int ((u.2.1 5 (b).toNatClampNeg + 1))), (0, .ref (ad 0)), (1, .int (s)), (2, .int (v)), (3, .int (b))]) => ?_)
    refine lv_iload_n hx hb d_TM_function_22 rfl (lv_at hl 2 rfl) ?_
    refine lv_iconst (v := -1) hx hb d_TM_function_23 (by decide) ?_
    refine lv_icmp_ne hx hb d_TM_function_24 (tgt := 33) rfl (fun q => absurd (h2t) q) (fun _ => ?_)
    refine lv_iconst (v := 1) hx hb d_TM_function_27 (by decide) ?_
    refine lv_iload_n hx hb d_TM_function_28 rfl (lv_at hl 3 rfl) ?_
    refine lv_ishl hx hb d_TM_function_29 ?_
    refine lv_goto hx hb d_TM_function_30 (tgt := 40) rfl ?_
    refine lv_istore hx hb d_TM_function_40 hl (by decide) rfl (fun ls (hl : lv_has ls 6 [(5, .int ((1 <<< (v &&& 31)))), (4, .int ((u.2.1 5 (b).toNatClampNeg + 1))), (0, .ref (ad 0)), (1, .int (s)), (2, .int (v)), (3, .int (b))]) => ?_)
    refine lv_aload_n hx hb d_TM_function_42 rfl (lv_at hl 2 rfl) ?_
    refine lv_iconst (v := 2) hx hb d_TM_function_43 (by decide) ?_
    refine lv_iload_n hx hb d_TM_function_44 rfl (lv_at hl 5 rfl) ?_
    refine lv_iload_n hx hb d_TM_function_45 rfl (lv_at hl 4 rfl) ?_
    refine lv_iload_n hx hb d_TM_function_46 rfl (lv_at hl 3 rfl) ?_
    refine lv_aload_n hx hb d_TM_function_47 rfl (lv_at hl 2 rfl) ?_
    refine tm_get X h uw_TM 0 rfl rfl 0 (by decide) kw_165 rfl rfl d_TM_function_48 ?_
    refine tm_getN X h uw_EX 1 rfl rfl 4 (by decide) kw_45 rfl rfl d_TM_function_51 ?_
    refine lv_iload_n hx hb d_TM_function_54 rfl (lv_at hl 5 rfl) ?_
    refine tm_iald X h 6 0 rfl rfl (b.toNatClampNeg) ((cs_pt1 (fun q => f17 (Or.inl q)) hn hn2).1) ((cs_pt1 (fun q => f17 (Or.inl q)) hn hn2).2) (by decide) d_TM_function_55 ?_
    refine lv_iload hx hb d_TM_function_56 (lv_at hl 0 rfl) ?_
    refine lv_iconst (v := -1) hx hb d_TM_function_58 (by decide) ?_
    refine lv_ixor hx hb d_TM_function_59 ?_
    refine lv_iand hx hb d_TM_function_60 ?_
    refine lv_iload hx hb d_TM_function_61 (lv_at hl 1 rfl) ?_
    refine tx_cIf X h (tx_rV (q0 := 0) X h hE (c_TM_addExpression l D cI cL cZ ad hst (n) (2) (b) (v) (s) ((((u).2.1 4 (b.toNatClampNeg)) &&& ((1 <<< (v &&& 31)) ^^^ (-1)))) ((u.2.1 5 (b).toNatClampNeg + 1)) u (hn) (hn2) _) ki_TM_addExpression kw_184 rfl rfl rfl rfl rfl ⟨by decide, by decide⟩ rfl hl.1 rfl (Nat.le_of_ble_eq_true rfl) d_TM_function_63 ⟨by decide, by decide⟩) (fun E9 u9 q9 ce9 H locs hx9 h e91 e92 e93 => tx_out (w := tm_wC ad cI cL cZ) (u := u9) X htab h e91 e92 e93 (Or.inr ⟨hx9.1, hx9.2.1, (fun q => q.elim (fun z => z.1 h2t) (fun q => q.elim f12 f17)), hx9.2.2⟩)) (fun H locs f63 h => ?_)
    exact tx_iret (w := tm_wC ad cI cL cZ) (u := (cs_add u (n) (2) (b) (v) (s) ((((u).2.1 4 (b.toNatClampNeg)) &&& ((1 <<< (v &&& 31)) ^^^ (-1)))) ((u.2.1 5 (b).toNatClampNeg + 1)))) X h (⟨⟨rfl, by unfold cs_fun; rw [if_pos h2t]⟩, (fun q => q.elim (fun z => z.1 h2t) (fun q => q.elim f12 f17)), f63⟩) d_TM_function_66
  · refine lv_aload_n hx hb d_TM_function_5 rfl (lv_at hl 0 rfl) ?_
    refine lv_iload_n hx hb d_TM_function_6 rfl (lv_at hl 1 rfl) ?_
    refine tx_cVf X h (tx_rV (q0 := 0) X h hE (c_TM_requireVariable l D cI cL cZ ad hst (s) u  _) ki_TM_requireVariable kw_265 rfl rfl rfl rfl rfl ⟨by decide, by decide⟩ rfl hl.1 rfl (Nat.le_of_ble_eq_true rfl) d_TM_function_7 ⟨by decide, by decide⟩) (fun E9 u9 q9 ce9 H locs hx9 h e91 e92 e93 => tx_out (w := tm_wC ad cI cL cZ) (u := u9) X htab h e91 e92 e93 (Or.inl ⟨hx9.1, hx9.2.1, Or.inl ⟨h2f, hx9.2.2⟩⟩)) (fun H locs f7 h => ?_)
    refine lv_aload_n hx hb d_TM_function_10 rfl (lv_at hl 0 rfl) ?_
    refine lv_iload_n hx hb d_TM_function_11 rfl (lv_at hl 2 rfl) ?_
    refine tx_cVf X h (tx_rV (q0 := 0) X h hE (c_TM_requireVariable l D cI cL cZ ad hst (v) u  _) ki_TM_requireVariable kw_265 rfl rfl rfl rfl rfl ⟨by decide, by decide⟩ rfl hl.1 rfl (Nat.le_of_ble_eq_true rfl) d_TM_function_12 ⟨by decide, by decide⟩) (fun E9 u9 q9 ce9 H locs hx9 h e91 e92 e93 => tx_out (w := tm_wC ad cI cL cZ) (u := u9) X htab h e91 e92 e93 (Or.inl ⟨hx9.1, hx9.2.1, Or.inr (Or.inl hx9.2.2)⟩)) (fun H locs f12 h => ?_)
    refine lv_aload_n hx hb d_TM_function_15 rfl (lv_at hl 0 rfl) ?_
    refine lv_iload_n hx hb d_TM_function_16 rfl (lv_at hl 3 rfl) ?_
    refine tx_cIf X h (tx_rV (q0 := 0) X h hE (c_TM_heightAbove l D cI cL cZ ad hst (n) (b) u (hn) (hn2) _) ki_TM_heightAbove kw_292 rfl rfl rfl rfl rfl ⟨by decide, by decide⟩ rfl hl.1 rfl (Nat.le_of_ble_eq_true rfl) d_TM_function_17 ⟨by decide, by decide⟩) (fun E9 u9 q9 ce9 H locs hx9 h e91 e92 e93 => tx_out (w := tm_wC ad cI cL cZ) (u := u9) X htab h e91 e92 e93 (Or.inl ⟨hx9.1, hx9.2.1, Or.inr (Or.inr hx9.2.2)⟩)) (fun H locs f17 h => ?_)
    refine lv_istore hx hb d_TM_function_20 hl (by decide) rfl (fun ls (hl : lv_has ls 6 [(4, .int ((u.2.1 5 (b).toNatClampNeg + 1))), (0, .ref (ad 0)), (1, .int (s)), (2, .int (v)), (3, .int (b))]) => ?_)
    refine lv_iload_n hx hb d_TM_function_22 rfl (lv_at hl 2 rfl) ?_
    refine lv_iconst (v := -1) hx hb d_TM_function_23 (by decide) ?_
    refine lv_icmp_ne hx hb d_TM_function_24 (tgt := 33) rfl (fun _ => ?_) (fun q => absurd q (h2f))
    refine lv_iconst (v := 1) hx hb d_TM_function_33 (by decide) ?_
    refine lv_iload_n hx hb d_TM_function_34 rfl (lv_at hl 3 rfl) ?_
    refine lv_ishl hx hb d_TM_function_35 ?_
    refine lv_iconst (v := 1) hx hb d_TM_function_36 (by decide) ?_
    refine lv_iload_n hx hb d_TM_function_37 rfl (lv_at hl 2 rfl) ?_
    refine lv_ishl hx hb d_TM_function_38 ?_
    refine lv_ior hx hb d_TM_function_39 ?_
    refine lv_istore hx hb d_TM_function_40 hl (by decide) rfl (fun ls (hl : lv_has ls 6 [(5, .int (((1 <<< (v &&& 31)) ||| (1 <<< (s &&& 31))))), (4, .int ((u.2.1 5 (b).toNatClampNeg + 1))), (0, .ref (ad 0)), (1, .int (s)), (2, .int (v)), (3, .int (b))]) => ?_)
    refine lv_aload_n hx hb d_TM_function_42 rfl (lv_at hl 2 rfl) ?_
    refine lv_iconst (v := 2) hx hb d_TM_function_43 (by decide) ?_
    refine lv_iload_n hx hb d_TM_function_44 rfl (lv_at hl 5 rfl) ?_
    refine lv_iload_n hx hb d_TM_function_45 rfl (lv_at hl 4 rfl) ?_
    refine lv_iload_n hx hb d_TM_function_46 rfl (lv_at hl 3 rfl) ?_
    refine lv_aload_n hx hb d_TM_function_47 rfl (lv_at hl 2 rfl) ?_
    refine tm_get X h uw_TM 0 rfl rfl 0 (by decide) kw_165 rfl rfl d_TM_function_48 ?_
    refine tm_getN X h uw_EX 1 rfl rfl 4 (by decide) kw_45 rfl rfl d_TM_function_51 ?_
    refine lv_iload_n hx hb d_TM_function_54 rfl (lv_at hl 5 rfl) ?_
    refine tm_iald X h 6 0 rfl rfl (b.toNatClampNeg) ((cs_pt1 (fun q => f17 (Or.inl q)) hn hn2).1) ((cs_pt1 (fun q => f17 (Or.inl q)) hn hn2).2) (by decide) d_TM_function_55 ?_
    refine lv_iload hx hb d_TM_function_56 (lv_at hl 0 rfl) ?_
    refine lv_iconst (v := -1) hx hb d_TM_function_58 (by decide) ?_
    refine lv_ixor hx hb d_TM_function_59 ?_
    refine lv_iand hx hb d_TM_function_60 ?_
    refine lv_iload hx hb d_TM_function_61 (lv_at hl 1 rfl) ?_
    refine tx_cIf X h (tx_rV (q0 := 0) X h hE (c_TM_addExpression l D cI cL cZ ad hst (n) (2) (b) (v) (s) ((((u).2.1 4 (b.toNatClampNeg)) &&& (((1 <<< (v &&& 31)) ||| (1 <<< (s &&& 31))) ^^^ (-1)))) ((u.2.1 5 (b).toNatClampNeg + 1)) u (hn) (hn2) _) ki_TM_addExpression kw_184 rfl rfl rfl rfl rfl ⟨by decide, by decide⟩ rfl hl.1 rfl (Nat.le_of_ble_eq_true rfl) d_TM_function_63 ⟨by decide, by decide⟩) (fun E9 u9 q9 ce9 H locs hx9 h e91 e92 e93 => tx_out (w := tm_wC ad cI cL cZ) (u := u9) X htab h e91 e92 e93 (Or.inr ⟨hx9.1, hx9.2.1, (fun q => q.elim (fun z => f7 z.2) (fun q => q.elim f12 f17)), hx9.2.2⟩)) (fun H locs f63 h => ?_)
    exact tx_iret (w := tm_wC ad cI cL cZ) (u := (cs_add u (n) (2) (b) (v) (s) ((((u).2.1 4 (b.toNatClampNeg)) &&& (((1 <<< (v &&& 31)) ||| (1 <<< (s &&& 31))) ^^^ (-1)))) ((u.2.1 5 (b).toNatClampNeg + 1)))) X h (⟨⟨rfl, by unfold cs_fun; rw [if_neg h2f]⟩, (fun q => q.elim (fun z => f7 z.2) (fun q => q.elim f12 f17)), f63⟩) d_TM_function_66
theorem d_TM_call_0 : decode b_TM_call 0 = .ok (.aload_n 0, 1) := by decide +kernel
theorem d_TM_call_1 : decode b_TM_call 1 = .ok (.iload_n 1, 1) := by decide +kernel
theorem d_TM_call_2 : decode b_TM_call 2 = .ok (.invokevirtual 33, 3) := by decide +kernel
theorem d_TM_call_5 : decode b_TM_call 5 = .ok (.aload_n 0, 1) := by decide +kernel
theorem d_TM_call_6 : decode b_TM_call 6 = .ok (.iload_n 2, 1) := by decide +kernel
theorem d_TM_call_7 : decode b_TM_call 7 = .ok (.invokevirtual 33, 3) := by decide +kernel
theorem d_TM_call_10 : decode b_TM_call 10 = .ok (.invokestatic 41, 3) := by decide +kernel
theorem d_TM_call_13 : decode b_TM_call 13 = .ok (.istore_n 3, 1) := by decide +kernel
theorem d_TM_call_14 : decode b_TM_call 14 = .ok (.aload_n 0, 1) := by decide +kernel
theorem d_TM_call_15 : decode b_TM_call 15 = .ok (.getfield 10, 3) := by decide +kernel
theorem d_TM_call_18 : decode b_TM_call 18 = .ok (.getfield 37, 3) := by decide +kernel
theorem d_TM_call_21 : decode b_TM_call 21 = .ok (.iload_n 1, 1) := by decide +kernel
theorem d_TM_call_22 : decode b_TM_call 22 = .ok (.iaload, 1) := by decide +kernel
theorem d_TM_call_23 : decode b_TM_call 23 = .ok (.aload_n 0, 1) := by decide +kernel
theorem d_TM_call_24 : decode b_TM_call 24 = .ok (.getfield 10, 3) := by decide +kernel
theorem d_TM_call_27 : decode b_TM_call 27 = .ok (.getfield 37, 3) := by decide +kernel
theorem d_TM_call_30 : decode b_TM_call 30 = .ok (.iload_n 2, 1) := by decide +kernel
theorem d_TM_call_31 : decode b_TM_call 31 = .ok (.iaload, 1) := by decide +kernel
theorem d_TM_call_32 : decode b_TM_call 32 = .ok (.ior, 1) := by decide +kernel
theorem d_TM_call_33 : decode b_TM_call 33 = .ok (.istore 4, 2) := by decide +kernel
theorem d_TM_call_35 : decode b_TM_call 35 = .ok (.aload_n 0, 1) := by decide +kernel
theorem d_TM_call_36 : decode b_TM_call 36 = .ok (.iconst 3, 1) := by decide +kernel
theorem d_TM_call_37 : decode b_TM_call 37 = .ok (.iload_n 1, 1) := by decide +kernel
theorem d_TM_call_38 : decode b_TM_call 38 = .ok (.iload_n 2, 1) := by decide +kernel
theorem d_TM_call_39 : decode b_TM_call 39 = .ok (.iconst 0, 1) := by decide +kernel
theorem d_TM_call_40 : decode b_TM_call 40 = .ok (.iload 4, 2) := by decide +kernel
theorem d_TM_call_42 : decode b_TM_call 42 = .ok (.iload_n 3, 1) := by decide +kernel
theorem d_TM_call_43 : decode b_TM_call 43 = .ok (.invokevirtual 25, 3) := by decide +kernel
theorem d_TM_call_46 : decode b_TM_call 46 = .ok (.ireturn, 1) := by decide +kernel
set_option maxHeartbeats 4000000 in
set_option maxRecDepth 100000 in
theorem c_TM_call (l : Launch) (D : va_G) (cI cL cZ : ClassId) (ad : Nat → Nat) (hst : l.stackTraces = false) (n : Nat) (f : Int32) (x : Int32) (u : tm_SC) (hn : u.1 11 = nI n) (hn2 : n ≤ 100) : tx_I l y_TM_call b_TM_call 5 .int ({ frames := 8, cells := 1, slots := 6, locals := 133 } : Room) D (tm_yC cI cL cZ) (tm_wC ad cI cL cZ) [.ref (ad 0), .int (f), .int (x)] u (fun r u' => (r = (nI n) ∧ u' = (cs_add u n 3 f x 0 (u.2.1 4 f.toNatClampNeg ||| u.2.1 4 x.toNatClampNeg) (cs_mx (u.2.1 5 f.toNatClampNeg + 1) (u.2.1 5 x.toNatClampNeg + 1)))) ∧ (¬ (cs_hb u f ∨ cs_hb u x) ∧ n < 100)) (fun E u' => (E = "java/lang/IllegalArgumentException" ∧ u' = u ∧ (cs_hb u f ∨ cs_hb u x)) ∨ (E = "java/lang/IllegalStateException" ∧ u' = u ∧ ¬ (cs_hb u f ∨ cs_hb u x) ∧ n = 100)) := by
  intro sz
  refine tx_of (Qc := fun A => va_Qi (fun r u' => (r = (nI n) ∧ u' = (cs_add u n 3 f x 0 (u.2.1 4 f.toNatClampNeg ||| u.2.1 4 x.toNatClampNeg) (cs_mx (u.2.1 5 f.toNatClampNeg + 1) (u.2.1 5 x.toNatClampNeg + 1)))) ∧ (¬ (cs_hb u f ∨ cs_hb u x) ∧ n < 100)) (fun u' t => tm_B D (tm_yC cI cL cZ) A (tm_wC ad cI cL cZ u') t) A) (XC := fun A => tx_X D (tm_yC cI cL cZ) (tm_wC ad cI cL cZ) A (fun E u' => (E = "java/lang/IllegalArgumentException" ∧ u' = u ∧ (cs_hb u f ∨ cs_hb u x)) ∨ (E = "java/lang/IllegalStateException" ∧ u' = u ∧ ¬ (cs_hb u f ∨ cs_hb u x) ∧ n = 100))) (by decide) (Nat.le_of_ble_eq_true rfl) ?_ sz
  intro pg eg sg mg bel met cg A ls X h hl hE htab
  have hx := X.1.1
  have hb := X.1.2.1
  have hl : lv_has ls 5 [(0, .ref (ad 0)), (1, .int (f)), (2, .int (x))] := hl
  refine lv_aload_n hx hb d_TM_call_0 rfl (lv_at hl 0 rfl) ?_
  refine lv_iload_n hx hb d_TM_call_1 rfl (lv_at hl 1 rfl) ?_
  refine tx_cIf X h (tx_rV (q0 := 0) X h hE (c_TM_heightAbove l D cI cL cZ ad hst (n) (f) u (hn) (hn2) _) ki_TM_heightAbove kw_292 rfl rfl rfl rfl rfl ⟨by decide, by decide⟩ rfl hl.1 rfl (Nat.le_of_ble_eq_true rfl) d_TM_call_2 ⟨by decide, by decide⟩) (fun E9 u9 q9 ce9 H locs hx9 h e91 e92 e93 => tx_out (w := tm_wC ad cI cL cZ) (u := u9) X htab h e91 e92 e93 (Or.inl ⟨hx9.1, hx9.2.1, Or.inl hx9.2.2⟩)) (fun H locs f2 h => ?_)
  refine lv_aload_n hx hb d_TM_call_5 rfl (lv_at hl 0 rfl) ?_
  refine lv_iload_n hx hb d_TM_call_6 rfl (lv_at hl 2 rfl) ?_
  refine tx_cIf X h (tx_rV (q0 := 0) X h hE (c_TM_heightAbove l D cI cL cZ ad hst (n) (x) u (hn) (hn2) _) ki_TM_heightAbove kw_292 rfl rfl rfl rfl rfl ⟨by decide, by decide⟩ rfl hl.1 rfl (Nat.le_of_ble_eq_true rfl) d_TM_call_7 ⟨by decide, by decide⟩) (fun E9 u9 q9 ce9 H locs hx9 h e91 e92 e93 => tx_out (w := tm_wC ad cI cL cZ) (u := u9) X htab h e91 e92 e93 (Or.inl ⟨hx9.1, hx9.2.1, Or.inr hx9.2.2⟩)) (fun H locs f7 h => ?_)
  refine tm_max X kw_309 kw_310 kw_12 kw_311 hl.1 (by decide) (Nat.le_of_ble_eq_true rfl) (by decide) (by decide) d_TM_call_10 ?_
  refine lv_istore_n hx hb d_TM_call_13 rfl hl (by decide) rfl (fun ls (hl : lv_has ls 5 [(3, .int ((if (u.2.1 5 (f).toNatClampNeg + 1) < (u.2.1 5 (x).toNatClampNeg + 1) then (u.2.1 5 (x).toNatClampNeg + 1) else (u.2.1 5 (f).toNatClampNeg + 1)))), (0, .ref (ad 0)), (1, .int (f)), (2, .int (x))]) => ?_)
  refine lv_aload_n hx hb d_TM_call_14 rfl (lv_at hl 1 rfl) ?_
  refine tm_get X h uw_TM 0 rfl rfl 0 (by decide) kw_165 rfl rfl d_TM_call_15 ?_
  refine tm_getN X h uw_EX 1 rfl rfl 4 (by decide) kw_45 rfl rfl d_TM_call_18 ?_
  refine lv_iload_n hx hb d_TM_call_21 rfl (lv_at hl 2 rfl) ?_
  refine tm_iald X h 6 0 rfl rfl (f.toNatClampNeg) ((cs_pt1 (fun q => f2 (Or.inl q)) hn hn2).1) ((cs_pt1 (fun q => f2 (Or.inl q)) hn hn2).2) (by decide) d_TM_call_22 ?_
  refine lv_aload_n hx hb d_TM_call_23 rfl (lv_at hl 1 rfl) ?_
  refine tm_get X h uw_TM 0 rfl rfl 0 (by decide) kw_165 rfl rfl d_TM_call_24 ?_
  refine tm_getN X h uw_EX 1 rfl rfl 4 (by decide) kw_45 rfl rfl d_TM_call_27 ?_
  refine lv_iload_n hx hb d_TM_call_30 rfl (lv_at hl 3 rfl) ?_
  refine tm_iald X h 6 0 rfl rfl (x.toNatClampNeg) ((cs_pt1 (fun q => f7 (Or.inl q)) hn hn2).1) ((cs_pt1 (fun q => f7 (Or.inl q)) hn hn2).2) (by decide) d_TM_call_31 ?_
  refine lv_ior hx hb d_TM_call_32 ?_
  refine lv_istore hx hb d_TM_call_33 hl (by decide) rfl (fun ls (hl : lv_has ls 5 [(4, .int ((((u).2.1 4 (f.toNatClampNeg)) ||| ((u).2.1 4 (x.toNatClampNeg))))), (3, .int ((if (u.2.1 5 (f).toNatClampNeg + 1) < (u.2.1 5 (x).toNatClampNeg + 1) then (u.2.1 5 (x).toNatClampNeg + 1) else (u.2.1 5 (f).toNatClampNeg + 1)))), (0, .ref (ad 0)), (1, .int (f)), (2, .int (x))]) => ?_)
  refine lv_aload_n hx hb d_TM_call_35 rfl (lv_at hl 2 rfl) ?_
  refine lv_iconst (v := 3) hx hb d_TM_call_36 (by decide) ?_
  refine lv_iload_n hx hb d_TM_call_37 rfl (lv_at hl 3 rfl) ?_
  refine lv_iload_n hx hb d_TM_call_38 rfl (lv_at hl 4 rfl) ?_
  refine lv_iconst (v := 0) hx hb d_TM_call_39 (by decide) ?_
  refine lv_iload hx hb d_TM_call_40 (lv_at hl 0 rfl) ?_
  refine lv_iload_n hx hb d_TM_call_42 rfl (lv_at hl 1 rfl) ?_
  refine tx_cIf X h (tx_rV (q0 := 0) X h hE (c_TM_addExpression l D cI cL cZ ad hst (n) (3) (f) (x) (0) ((((u).2.1 4 (f.toNatClampNeg)) ||| ((u).2.1 4 (x.toNatClampNeg)))) ((if (u.2.1 5 (f).toNatClampNeg + 1) < (u.2.1 5 (x).toNatClampNeg + 1) then (u.2.1 5 (x).toNatClampNeg + 1) else (u.2.1 5 (f).toNatClampNeg + 1))) u (hn) (hn2) _) ki_TM_addExpression kw_184 rfl rfl rfl rfl rfl ⟨by decide, by decide⟩ rfl hl.1 rfl (Nat.le_of_ble_eq_true rfl) d_TM_call_43 ⟨by decide, by decide⟩) (fun E9 u9 q9 ce9 H locs hx9 h e91 e92 e93 => tx_out (w := tm_wC ad cI cL cZ) (u := u9) X htab h e91 e92 e93 (Or.inr ⟨hx9.1, hx9.2.1, (fun q => q.elim f2 f7), hx9.2.2⟩)) (fun H locs f43 h => ?_)
  exact tx_iret (w := tm_wC ad cI cL cZ) (u := (cs_add u (n) (3) (f) (x) (0) ((((u).2.1 4 (f.toNatClampNeg)) ||| ((u).2.1 4 (x.toNatClampNeg)))) ((if (u.2.1 5 (f).toNatClampNeg + 1) < (u.2.1 5 (x).toNatClampNeg + 1) then (u.2.1 5 (x).toNatClampNeg + 1) else (u.2.1 5 (f).toNatClampNeg + 1))))) X h (⟨⟨rfl, rfl⟩, (fun q => q.elim f2 f7), f43⟩) d_TM_call_46
theorem d_TM_operation_0 : decode b_TM_operation 0 = .ok (.iload_n 1, 1) := by decide +kernel
theorem d_TM_operation_1 : decode b_TM_operation 1 = .ok (.ifCond .lt 8, 3) := by decide +kernel
theorem d_TM_operation_4 : decode b_TM_operation 4 = .ok (.iload_n 1, 1) := by decide +kernel
theorem d_TM_operation_5 : decode b_TM_operation 5 = .ok (.iconst 4, 1) := by decide +kernel
theorem d_TM_operation_6 : decode b_TM_operation 6 = .ok (.if_icmp .lt 13, 3) := by decide +kernel
theorem d_TM_operation_9 : decode b_TM_operation 9 = .ok (.new 47, 3) := by decide +kernel
theorem d_TM_operation_12 : decode b_TM_operation 12 = .ok (.dup, 1) := by decide +kernel
theorem d_TM_operation_13 : decode b_TM_operation 13 = .ok (.ldc 49, 2) := by decide +kernel
theorem d_TM_operation_15 : decode b_TM_operation 15 = .ok (.invokespecial 51, 3) := by decide +kernel
theorem d_TM_operation_18 : decode b_TM_operation 18 = .ok (.athrow, 1) := by decide +kernel
theorem d_TM_operation_19 : decode b_TM_operation 19 = .ok (.aload_n 0, 1) := by decide +kernel
theorem d_TM_operation_20 : decode b_TM_operation 20 = .ok (.iload_n 2, 1) := by decide +kernel
theorem d_TM_operation_21 : decode b_TM_operation 21 = .ok (.invokevirtual 33, 3) := by decide +kernel
theorem d_TM_operation_24 : decode b_TM_operation 24 = .ok (.aload_n 0, 1) := by decide +kernel
theorem d_TM_operation_25 : decode b_TM_operation 25 = .ok (.iload_n 3, 1) := by decide +kernel
theorem d_TM_operation_26 : decode b_TM_operation 26 = .ok (.invokevirtual 33, 3) := by decide +kernel
theorem d_TM_operation_29 : decode b_TM_operation 29 = .ok (.invokestatic 41, 3) := by decide +kernel
theorem d_TM_operation_32 : decode b_TM_operation 32 = .ok (.istore 4, 2) := by decide +kernel
theorem d_TM_operation_34 : decode b_TM_operation 34 = .ok (.aload_n 0, 1) := by decide +kernel
theorem d_TM_operation_35 : decode b_TM_operation 35 = .ok (.getfield 10, 3) := by decide +kernel
theorem d_TM_operation_38 : decode b_TM_operation 38 = .ok (.getfield 37, 3) := by decide +kernel
theorem d_TM_operation_41 : decode b_TM_operation 41 = .ok (.iload_n 2, 1) := by decide +kernel
theorem d_TM_operation_42 : decode b_TM_operation 42 = .ok (.iaload, 1) := by decide +kernel
theorem d_TM_operation_43 : decode b_TM_operation 43 = .ok (.aload_n 0, 1) := by decide +kernel
theorem d_TM_operation_44 : decode b_TM_operation 44 = .ok (.getfield 10, 3) := by decide +kernel
theorem d_TM_operation_47 : decode b_TM_operation 47 = .ok (.getfield 37, 3) := by decide +kernel
theorem d_TM_operation_50 : decode b_TM_operation 50 = .ok (.iload_n 3, 1) := by decide +kernel
theorem d_TM_operation_51 : decode b_TM_operation 51 = .ok (.iaload, 1) := by decide +kernel
theorem d_TM_operation_52 : decode b_TM_operation 52 = .ok (.ior, 1) := by decide +kernel
theorem d_TM_operation_53 : decode b_TM_operation 53 = .ok (.istore 5, 2) := by decide +kernel
theorem d_TM_operation_55 : decode b_TM_operation 55 = .ok (.aload_n 0, 1) := by decide +kernel
theorem d_TM_operation_56 : decode b_TM_operation 56 = .ok (.iconst 4, 1) := by decide +kernel
theorem d_TM_operation_57 : decode b_TM_operation 57 = .ok (.iload_n 2, 1) := by decide +kernel
theorem d_TM_operation_58 : decode b_TM_operation 58 = .ok (.iload_n 3, 1) := by decide +kernel
theorem d_TM_operation_59 : decode b_TM_operation 59 = .ok (.iload_n 1, 1) := by decide +kernel
theorem d_TM_operation_60 : decode b_TM_operation 60 = .ok (.iload 5, 2) := by decide +kernel
theorem d_TM_operation_62 : decode b_TM_operation 62 = .ok (.iload 4, 2) := by decide +kernel
theorem d_TM_operation_64 : decode b_TM_operation 64 = .ok (.invokevirtual 25, 3) := by decide +kernel
theorem d_TM_operation_67 : decode b_TM_operation 67 = .ok (.ireturn, 1) := by decide +kernel
set_option maxHeartbeats 4000000 in
set_option maxRecDepth 100000 in
theorem c_TM_operation (l : Launch) (D : va_G) (cI cL cZ : ClassId) (ad : Nat → Nat) (hst : l.stackTraces = false) (n : Nat) (o : Int32) (x : Int32) (y : Int32) (u : tm_SC) (hn : u.1 11 = nI n) (hn2 : n ≤ 100) : tx_I l y_TM_operation b_TM_operation 6 .int ({ frames := 8, cells := 1, slots := 6, locals := 133 } : Room) D (tm_yC cI cL cZ) (tm_wC ad cI cL cZ) [.ref (ad 0), .int (o), .int (x), .int (y)] u (fun r u' => (r = (nI n) ∧ u' = (cs_add u n 4 x y o (u.2.1 4 x.toNatClampNeg ||| u.2.1 4 y.toNatClampNeg) (cs_mx (u.2.1 5 x.toNatClampNeg + 1) (u.2.1 5 y.toNatClampNeg + 1)))) ∧ (¬ ((o < 0 ∨ 4 ≤ o) ∨ cs_hb u x ∨ cs_hb u y) ∧ n < 100)) (fun E u' => (E = "java/lang/IllegalArgumentException" ∧ u' = u ∧ ((o < 0 ∨ 4 ≤ o) ∨ cs_hb u x ∨ cs_hb u y)) ∨ (E = "java/lang/IllegalStateException" ∧ u' = u ∧ ¬ ((o < 0 ∨ 4 ≤ o) ∨ cs_hb u x ∨ cs_hb u y) ∧ n = 100)) := by
  intro sz
  refine tx_of (Qc := fun A => va_Qi (fun r u' => (r = (nI n) ∧ u' = (cs_add u n 4 x y o (u.2.1 4 x.toNatClampNeg ||| u.2.1 4 y.toNatClampNeg) (cs_mx (u.2.1 5 x.toNatClampNeg + 1) (u.2.1 5 y.toNatClampNeg + 1)))) ∧ (¬ ((o < 0 ∨ 4 ≤ o) ∨ cs_hb u x ∨ cs_hb u y) ∧ n < 100)) (fun u' t => tm_B D (tm_yC cI cL cZ) A (tm_wC ad cI cL cZ u') t) A) (XC := fun A => tx_X D (tm_yC cI cL cZ) (tm_wC ad cI cL cZ) A (fun E u' => (E = "java/lang/IllegalArgumentException" ∧ u' = u ∧ ((o < 0 ∨ 4 ≤ o) ∨ cs_hb u x ∨ cs_hb u y)) ∨ (E = "java/lang/IllegalStateException" ∧ u' = u ∧ ¬ ((o < 0 ∨ 4 ≤ o) ∨ cs_hb u x ∨ cs_hb u y) ∧ n = 100))) (by decide) (Nat.le_of_ble_eq_true rfl) ?_ sz
  intro pg eg sg mg bel met cg A ls X h hl hE htab
  have hx := X.1.1
  have hb := X.1.2.1
  have hl : lv_has ls 6 [(0, .ref (ad 0)), (1, .int (o)), (2, .int (x)), (3, .int (y))] := hl
  refine lv_iload_n hx hb d_TM_operation_0 rfl (lv_at hl 1 rfl) ?_
  refine lv_if_lt hx hb d_TM_operation_1 (tgt := 9) rfl (fun h1t => ?_) (fun h1f => ?_)
  · exact tx_throw (w := tm_wC ad cI cL cZ) (u := u) (cls := "java/lang/IllegalArgumentException") (text := "no such operation") X htab hE hst h (by decide) kw_269 kw_11 (List.mem_of_getElem? (i := 4) rfl) ta_TM_51 (by decide +kernel) hl.1 d_TM_operation_9 d_TM_operation_12 d_TM_operation_13 d_TM_operation_15 d_TM_operation_18 (by decide) (Nat.le_of_ble_eq_true rfl) (by decide) (by decide) (Or.inl ⟨rfl, rfl, Or.inl (Or.inl h1t)⟩)
  · refine lv_iload_n hx hb d_TM_operation_4 rfl (lv_at hl 1 rfl) ?_
    refine lv_iconst (v := 4) hx hb d_TM_operation_5 (by decide) ?_
    refine lv_icmp_lt hx hb d_TM_operation_6 (tgt := 19) rfl (fun h6t => ?_) (fun h6f => ?_)
    · refine lv_aload_n hx hb d_TM_operation_19 rfl (lv_at hl 0 rfl) ?_
      refine lv_iload_n hx hb d_TM_operation_20 rfl (lv_at hl 2 rfl) ?_
      refine tx_cIf X h (tx_rV (q0 := 0) X h hE (c_TM_heightAbove l D cI cL cZ ad hst (n) (x) u (hn) (hn2) _) ki_TM_heightAbove kw_292 rfl rfl rfl rfl rfl ⟨by decide, by decide⟩ rfl hl.1 rfl (Nat.le_of_ble_eq_true rfl) d_TM_operation_21 ⟨by decide, by decide⟩) (fun E9 u9 q9 ce9 H locs hx9 h e91 e92 e93 => tx_out (w := tm_wC ad cI cL cZ) (u := u9) X htab h e91 e92 e93 (Or.inl ⟨hx9.1, hx9.2.1, Or.inr (Or.inl hx9.2.2)⟩)) (fun H locs f21 h => ?_)
      refine lv_aload_n hx hb d_TM_operation_24 rfl (lv_at hl 0 rfl) ?_
      refine lv_iload_n hx hb d_TM_operation_25 rfl (lv_at hl 3 rfl) ?_
      refine tx_cIf X h (tx_rV (q0 := 0) X h hE (c_TM_heightAbove l D cI cL cZ ad hst (n) (y) u (hn) (hn2) _) ki_TM_heightAbove kw_292 rfl rfl rfl rfl rfl ⟨by decide, by decide⟩ rfl hl.1 rfl (Nat.le_of_ble_eq_true rfl) d_TM_operation_26 ⟨by decide, by decide⟩) (fun E9 u9 q9 ce9 H locs hx9 h e91 e92 e93 => tx_out (w := tm_wC ad cI cL cZ) (u := u9) X htab h e91 e92 e93 (Or.inl ⟨hx9.1, hx9.2.1, Or.inr (Or.inr hx9.2.2)⟩)) (fun H locs f26 h => ?_)
      refine tm_max X kw_309 kw_310 kw_12 kw_311 hl.1 (by decide) (Nat.le_of_ble_eq_true rfl) (by decide) (by decide) d_TM_operation_29 ?_
      refine lv_istore hx hb d_TM_operation_32 hl (by decide) rfl (fun ls (hl : lv_has ls 6 [(4, .int ((if (u.2.1 5 (x).toNatClampNeg + 1) < (u.2.1 5 (y).toNatClampNeg + 1) then (u.2.1 5 (y).toNatClampNeg + 1) else (u.2.1 5 (x).toNatClampNeg + 1)))), (0, .ref (ad 0)), (1, .int (o)), (2, .int (x)), (3, .int (y))]) => ?_)
      refine lv_aload_n hx hb d_TM_operation_34 rfl (lv_at hl 1 rfl) ?_
      refine tm_get X h uw_TM 0 rfl rfl 0 (by decide) kw_165 rfl rfl d_TM_operation_35 ?_
      refine tm_getN X h uw_EX 1 rfl rfl 4 (by decide) kw_45 rfl rfl d_TM_operation_38 ?_
      refine lv_iload_n hx hb d_TM_operation_41 rfl (lv_at hl 3 rfl) ?_
      refine tm_iald X h 6 0 rfl rfl (x.toNatClampNeg) ((cs_pt1 (fun q => f21 (Or.inl q)) hn hn2).1) ((cs_pt1 (fun q => f21 (Or.inl q)) hn hn2).2) (by decide) d_TM_operation_42 ?_
      refine lv_aload_n hx hb d_TM_operation_43 rfl (lv_at hl 1 rfl) ?_
      refine tm_get X h uw_TM 0 rfl rfl 0 (by decide) kw_165 rfl rfl d_TM_operation_44 ?_
      refine tm_getN X h uw_EX 1 rfl rfl 4 (by decide) kw_45 rfl rfl d_TM_operation_47 ?_
      refine lv_iload_n hx hb d_TM_operation_50 rfl (lv_at hl 4 rfl) ?_
      refine tm_iald X h 6 0 rfl rfl (y.toNatClampNeg) ((cs_pt1 (fun q => f26 (Or.inl q)) hn hn2).1) ((cs_pt1 (fun q => f26 (Or.inl q)) hn hn2).2) (by decide) d_TM_operation_51 ?_
      refine lv_ior hx hb d_TM_operation_52 ?_
      refine lv_istore hx hb d_TM_operation_53 hl (by decide) rfl (fun ls (hl : lv_has ls 6 [(5, .int ((((u).2.1 4 (x.toNatClampNeg)) ||| ((u).2.1 4 (y.toNatClampNeg))))), (4, .int ((if (u.2.1 5 (x).toNatClampNeg + 1) < (u.2.1 5 (y).toNatClampNeg + 1) then (u.2.1 5 (y).toNatClampNeg + 1) else (u.2.1 5 (x).toNatClampNeg + 1)))), (0, .ref (ad 0)), (1, .int (o)), (2, .int (x)), (3, .int (y))]) => ?_)
      refine lv_aload_n hx hb d_TM_operation_55 rfl (lv_at hl 2 rfl) ?_
      refine lv_iconst (v := 4) hx hb d_TM_operation_56 (by decide) ?_
      refine lv_iload_n hx hb d_TM_operation_57 rfl (lv_at hl 4 rfl) ?_
      refine lv_iload_n hx hb d_TM_operation_58 rfl (lv_at hl 5 rfl) ?_
      refine lv_iload_n hx hb d_TM_operation_59 rfl (lv_at hl 3 rfl) ?_
      refine lv_iload hx hb d_TM_operation_60 (lv_at hl 0 rfl) ?_
      refine lv_iload hx hb d_TM_operation_62 (lv_at hl 1 rfl) ?_
      refine tx_cIf X h (tx_rV (q0 := 0) X h hE (c_TM_addExpression l D cI cL cZ ad hst (n) (4) (x) (y) (o) ((((u).2.1 4 (x.toNatClampNeg)) ||| ((u).2.1 4 (y.toNatClampNeg)))) ((if (u.2.1 5 (x).toNatClampNeg + 1) < (u.2.1 5 (y).toNatClampNeg + 1) then (u.2.1 5 (y).toNatClampNeg + 1) else (u.2.1 5 (x).toNatClampNeg + 1))) u (hn) (hn2) _) ki_TM_addExpression kw_184 rfl rfl rfl rfl rfl ⟨by decide, by decide⟩ rfl hl.1 rfl (Nat.le_of_ble_eq_true rfl) d_TM_operation_64 ⟨by decide, by decide⟩) (fun E9 u9 q9 ce9 H locs hx9 h e91 e92 e93 => tx_out (w := tm_wC ad cI cL cZ) (u := u9) X htab h e91 e92 e93 (Or.inr ⟨hx9.1, hx9.2.1, (fun q => q.elim (fun q => q.elim h1f (Int32.not_le.mpr h6t)) (fun q => q.elim f21 f26)), hx9.2.2⟩)) (fun H locs f64 h => ?_)
      exact tx_iret (w := tm_wC ad cI cL cZ) (u := (cs_add u (n) (4) (x) (y) (o) ((((u).2.1 4 (x.toNatClampNeg)) ||| ((u).2.1 4 (y.toNatClampNeg)))) ((if (u.2.1 5 (x).toNatClampNeg + 1) < (u.2.1 5 (y).toNatClampNeg + 1) then (u.2.1 5 (y).toNatClampNeg + 1) else (u.2.1 5 (x).toNatClampNeg + 1))))) X h (⟨⟨rfl, rfl⟩, (fun q => q.elim (fun q => q.elim h1f (Int32.not_le.mpr h6t)) (fun q => q.elim f21 f26)), f64⟩) d_TM_operation_67
    · exact tx_throw (w := tm_wC ad cI cL cZ) (u := u) (cls := "java/lang/IllegalArgumentException") (text := "no such operation") X htab hE hst h (by decide) kw_269 kw_11 (List.mem_of_getElem? (i := 4) rfl) ta_TM_51 (by decide +kernel) hl.1 d_TM_operation_9 d_TM_operation_12 d_TM_operation_13 d_TM_operation_15 d_TM_operation_18 (by decide) (Nat.le_of_ble_eq_true rfl) (by decide) (by decide) (Or.inl ⟨rfl, rfl, Or.inl (Or.inr (Int32.not_lt.mp h6f))⟩)
theorem d_TM_choice_0 : decode b_TM_choice 0 = .ok (.aload_n 0, 1) := by decide +kernel
theorem d_TM_choice_1 : decode b_TM_choice 1 = .ok (.iload_n 1, 1) := by decide +kernel
theorem d_TM_choice_2 : decode b_TM_choice 2 = .ok (.invokevirtual 33, 3) := by decide +kernel
theorem d_TM_choice_5 : decode b_TM_choice 5 = .ok (.aload_n 0, 1) := by decide +kernel
theorem d_TM_choice_6 : decode b_TM_choice 6 = .ok (.iload_n 2, 1) := by decide +kernel
theorem d_TM_choice_7 : decode b_TM_choice 7 = .ok (.invokevirtual 33, 3) := by decide +kernel
theorem d_TM_choice_10 : decode b_TM_choice 10 = .ok (.aload_n 0, 1) := by decide +kernel
theorem d_TM_choice_11 : decode b_TM_choice 11 = .ok (.iload_n 3, 1) := by decide +kernel
theorem d_TM_choice_12 : decode b_TM_choice 12 = .ok (.invokevirtual 33, 3) := by decide +kernel
theorem d_TM_choice_15 : decode b_TM_choice 15 = .ok (.invokestatic 41, 3) := by decide +kernel
theorem d_TM_choice_18 : decode b_TM_choice 18 = .ok (.invokestatic 41, 3) := by decide +kernel
theorem d_TM_choice_21 : decode b_TM_choice 21 = .ok (.istore 4, 2) := by decide +kernel
theorem d_TM_choice_23 : decode b_TM_choice 23 = .ok (.aload_n 0, 1) := by decide +kernel
theorem d_TM_choice_24 : decode b_TM_choice 24 = .ok (.getfield 10, 3) := by decide +kernel
theorem d_TM_choice_27 : decode b_TM_choice 27 = .ok (.getfield 37, 3) := by decide +kernel
theorem d_TM_choice_30 : decode b_TM_choice 30 = .ok (.iload_n 1, 1) := by decide +kernel
theorem d_TM_choice_31 : decode b_TM_choice 31 = .ok (.iaload, 1) := by decide +kernel
theorem d_TM_choice_32 : decode b_TM_choice 32 = .ok (.aload_n 0, 1) := by decide +kernel
theorem d_TM_choice_33 : decode b_TM_choice 33 = .ok (.getfield 10, 3) := by decide +kernel
theorem d_TM_choice_36 : decode b_TM_choice 36 = .ok (.getfield 37, 3) := by decide +kernel
theorem d_TM_choice_39 : decode b_TM_choice 39 = .ok (.iload_n 2, 1) := by decide +kernel
theorem d_TM_choice_40 : decode b_TM_choice 40 = .ok (.iaload, 1) := by decide +kernel
theorem d_TM_choice_41 : decode b_TM_choice 41 = .ok (.ior, 1) := by decide +kernel
theorem d_TM_choice_42 : decode b_TM_choice 42 = .ok (.aload_n 0, 1) := by decide +kernel
theorem d_TM_choice_43 : decode b_TM_choice 43 = .ok (.getfield 10, 3) := by decide +kernel
theorem d_TM_choice_46 : decode b_TM_choice 46 = .ok (.getfield 37, 3) := by decide +kernel
theorem d_TM_choice_49 : decode b_TM_choice 49 = .ok (.iload_n 3, 1) := by decide +kernel
theorem d_TM_choice_50 : decode b_TM_choice 50 = .ok (.iaload, 1) := by decide +kernel
theorem d_TM_choice_51 : decode b_TM_choice 51 = .ok (.ior, 1) := by decide +kernel
theorem d_TM_choice_52 : decode b_TM_choice 52 = .ok (.istore 5, 2) := by decide +kernel
theorem d_TM_choice_54 : decode b_TM_choice 54 = .ok (.aload_n 0, 1) := by decide +kernel
theorem d_TM_choice_55 : decode b_TM_choice 55 = .ok (.iconst 5, 1) := by decide +kernel
theorem d_TM_choice_56 : decode b_TM_choice 56 = .ok (.iload_n 1, 1) := by decide +kernel
theorem d_TM_choice_57 : decode b_TM_choice 57 = .ok (.iload_n 2, 1) := by decide +kernel
theorem d_TM_choice_58 : decode b_TM_choice 58 = .ok (.iload_n 3, 1) := by decide +kernel
theorem d_TM_choice_59 : decode b_TM_choice 59 = .ok (.iload 5, 2) := by decide +kernel
theorem d_TM_choice_61 : decode b_TM_choice 61 = .ok (.iload 4, 2) := by decide +kernel
theorem d_TM_choice_63 : decode b_TM_choice 63 = .ok (.invokevirtual 25, 3) := by decide +kernel
theorem d_TM_choice_66 : decode b_TM_choice 66 = .ok (.ireturn, 1) := by decide +kernel
set_option maxHeartbeats 4000000 in
set_option maxRecDepth 100000 in
theorem c_TM_choice (l : Launch) (D : va_G) (cI cL cZ : ClassId) (ad : Nat → Nat) (hst : l.stackTraces = false) (n : Nat) (c : Int32) (a : Int32) (b : Int32) (u : tm_SC) (hn : u.1 11 = nI n) (hn2 : n ≤ 100) : tx_I l y_TM_choice b_TM_choice 6 .int ({ frames := 8, cells := 1, slots := 6, locals := 133 } : Room) D (tm_yC cI cL cZ) (tm_wC ad cI cL cZ) [.ref (ad 0), .int (c), .int (a), .int (b)] u (fun r u' => (r = (nI n) ∧ u' = (cs_add u n 5 c a b ((u.2.1 4 c.toNatClampNeg ||| u.2.1 4 a.toNatClampNeg) ||| u.2.1 4 b.toNatClampNeg) (cs_mx (u.2.1 5 c.toNatClampNeg + 1) (cs_mx (u.2.1 5 a.toNatClampNeg + 1) (u.2.1 5 b.toNatClampNeg + 1))))) ∧ (¬ (cs_hb u c ∨ cs_hb u a ∨ cs_hb u b) ∧ n < 100)) (fun E u' => (E = "java/lang/IllegalArgumentException" ∧ u' = u ∧ (cs_hb u c ∨ cs_hb u a ∨ cs_hb u b)) ∨ (E = "java/lang/IllegalStateException" ∧ u' = u ∧ ¬ (cs_hb u c ∨ cs_hb u a ∨ cs_hb u b) ∧ n = 100)) := by
  intro sz
  refine tx_of (Qc := fun A => va_Qi (fun r u' => (r = (nI n) ∧ u' = (cs_add u n 5 c a b ((u.2.1 4 c.toNatClampNeg ||| u.2.1 4 a.toNatClampNeg) ||| u.2.1 4 b.toNatClampNeg) (cs_mx (u.2.1 5 c.toNatClampNeg + 1) (cs_mx (u.2.1 5 a.toNatClampNeg + 1) (u.2.1 5 b.toNatClampNeg + 1))))) ∧ (¬ (cs_hb u c ∨ cs_hb u a ∨ cs_hb u b) ∧ n < 100)) (fun u' t => tm_B D (tm_yC cI cL cZ) A (tm_wC ad cI cL cZ u') t) A) (XC := fun A => tx_X D (tm_yC cI cL cZ) (tm_wC ad cI cL cZ) A (fun E u' => (E = "java/lang/IllegalArgumentException" ∧ u' = u ∧ (cs_hb u c ∨ cs_hb u a ∨ cs_hb u b)) ∨ (E = "java/lang/IllegalStateException" ∧ u' = u ∧ ¬ (cs_hb u c ∨ cs_hb u a ∨ cs_hb u b) ∧ n = 100))) (by decide) (Nat.le_of_ble_eq_true rfl) ?_ sz
  intro pg eg sg mg bel met cg A ls X h hl hE htab
  have hx := X.1.1
  have hb := X.1.2.1
  have hl : lv_has ls 6 [(0, .ref (ad 0)), (1, .int (c)), (2, .int (a)), (3, .int (b))] := hl
  refine lv_aload_n hx hb d_TM_choice_0 rfl (lv_at hl 0 rfl) ?_
  refine lv_iload_n hx hb d_TM_choice_1 rfl (lv_at hl 1 rfl) ?_
  refine tx_cIf X h (tx_rV (q0 := 0) X h hE (c_TM_heightAbove l D cI cL cZ ad hst (n) (c) u (hn) (hn2) _) ki_TM_heightAbove kw_292 rfl rfl rfl rfl rfl ⟨by decide, by decide⟩ rfl hl.1 rfl (Nat.le_of_ble_eq_true rfl) d_TM_choice_2 ⟨by decide, by decide⟩) (fun E9 u9 q9 ce9 H locs hx9 h e91 e92 e93 => tx_out (w := tm_wC ad cI cL cZ) (u := u9) X htab h e91 e92 e93 (Or.inl ⟨hx9.1, hx9.2.1, Or.inl hx9.2.2⟩)) (fun H locs f2 h => ?_)
  refine lv_aload_n hx hb d_TM_choice_5 rfl (lv_at hl 0 rfl) ?_
  refine lv_iload_n hx hb d_TM_choice_6 rfl (lv_at hl 2 rfl) ?_
  refine tx_cIf X h (tx_rV (q0 := 0) X h hE (c_TM_heightAbove l D cI cL cZ ad hst (n) (a) u (hn) (hn2) _) ki_TM_heightAbove kw_292 rfl rfl rfl rfl rfl ⟨by decide, by decide⟩ rfl hl.1 rfl (Nat.le_of_ble_eq_true rfl) d_TM_choice_7 ⟨by decide, by decide⟩) (fun E9 u9 q9 ce9 H locs hx9 h e91 e92 e93 => tx_out (w := tm_wC ad cI cL cZ) (u := u9) X htab h e91 e92 e93 (Or.inl ⟨hx9.1, hx9.2.1, Or.inr (Or.inl hx9.2.2)⟩)) (fun H locs f7 h => ?_)
  refine lv_aload_n hx hb d_TM_choice_10 rfl (lv_at hl 0 rfl) ?_
  refine lv_iload_n hx hb d_TM_choice_11 rfl (lv_at hl 3 rfl) ?_
  refine tx_cIf X h (tx_rV (q0 := 0) X h hE (c_TM_heightAbove l D cI cL cZ ad hst (n) (b) u (hn) (hn2) _) ki_TM_heightAbove kw_292 rfl rfl rfl rfl rfl ⟨by decide, by decide⟩ rfl hl.1 rfl (Nat.le_of_ble_eq_true rfl) d_TM_choice_12 ⟨by decide, by decide⟩) (fun E9 u9 q9 ce9 H locs hx9 h e91 e92 e93 => tx_out (w := tm_wC ad cI cL cZ) (u := u9) X htab h e91 e92 e93 (Or.inl ⟨hx9.1, hx9.2.1, Or.inr (Or.inr hx9.2.2)⟩)) (fun H locs f12 h => ?_)
  refine tm_max X kw_309 kw_310 kw_12 kw_311 hl.1 (by decide) (Nat.le_of_ble_eq_true rfl) (by decide) (by decide) d_TM_choice_15 ?_
  refine tm_max X kw_309 kw_310 kw_12 kw_311 hl.1 (by decide) (Nat.le_of_ble_eq_true rfl) (by decide) (by decide) d_TM_choice_18 ?_
  refine lv_istore hx hb d_TM_choice_21 hl (by decide) rfl (fun ls (hl : lv_has ls 6 [(4, .int ((if (u.2.1 5 (c).toNatClampNeg + 1) < (if (u.2.1 5 (a).toNatClampNeg + 1) < (u.2.1 5 (b).toNatClampNeg + 1) then (u.2.1 5 (b).toNatClampNeg + 1) else (u.2.1 5 (a).toNatClampNeg + 1)) then (if (u.2.1 5 (a).toNatClampNeg + 1) < (u.2.1 5 (b).toNatClampNeg + 1) then (u.2.1 5 (b).toNatClampNeg + 1) else (u.2.1 5 (a).toNatClampNeg + 1)) else (u.2.1 5 (c).toNatClampNeg + 1)))), (0, .ref (ad 0)), (1, .int (c)), (2, .int (a)), (3, .int (b))]) => ?_)
  refine lv_aload_n hx hb d_TM_choice_23 rfl (lv_at hl 1 rfl) ?_
  refine tm_get X h uw_TM 0 rfl rfl 0 (by decide) kw_165 rfl rfl d_TM_choice_24 ?_
  refine tm_getN X h uw_EX 1 rfl rfl 4 (by decide) kw_45 rfl rfl d_TM_choice_27 ?_
  refine lv_iload_n hx hb d_TM_choice_30 rfl (lv_at hl 2 rfl) ?_
  refine tm_iald X h 6 0 rfl rfl (c.toNatClampNeg) ((cs_pt1 (fun q => f2 (Or.inl q)) hn hn2).1) ((cs_pt1 (fun q => f2 (Or.inl q)) hn hn2).2) (by decide) d_TM_choice_31 ?_
  refine lv_aload_n hx hb d_TM_choice_32 rfl (lv_at hl 1 rfl) ?_
  refine tm_get X h uw_TM 0 rfl rfl 0 (by decide) kw_165 rfl rfl d_TM_choice_33 ?_
  refine tm_getN X h uw_EX 1 rfl rfl 4 (by decide) kw_45 rfl rfl d_TM_choice_36 ?_
  refine lv_iload_n hx hb d_TM_choice_39 rfl (lv_at hl 3 rfl) ?_
  refine tm_iald X h 6 0 rfl rfl (a.toNatClampNeg) ((cs_pt1 (fun q => f7 (Or.inl q)) hn hn2).1) ((cs_pt1 (fun q => f7 (Or.inl q)) hn hn2).2) (by decide) d_TM_choice_40 ?_
  refine lv_ior hx hb d_TM_choice_41 ?_
  refine lv_aload_n hx hb d_TM_choice_42 rfl (lv_at hl 1 rfl) ?_
  refine tm_get X h uw_TM 0 rfl rfl 0 (by decide) kw_165 rfl rfl d_TM_choice_43 ?_
  refine tm_getN X h uw_EX 1 rfl rfl 4 (by decide) kw_45 rfl rfl d_TM_choice_46 ?_
  refine lv_iload_n hx hb d_TM_choice_49 rfl (lv_at hl 4 rfl) ?_
  refine tm_iald X h 6 0 rfl rfl (b.toNatClampNeg) ((cs_pt1 (fun q => f12 (Or.inl q)) hn hn2).1) ((cs_pt1 (fun q => f12 (Or.inl q)) hn hn2).2) (by decide) d_TM_choice_50 ?_
  refine lv_ior hx hb d_TM_choice_51 ?_
  refine lv_istore hx hb d_TM_choice_52 hl (by decide) rfl (fun ls (hl : lv_has ls 6 [(5, .int (((((u).2.1 4 (c.toNatClampNeg)) ||| ((u).2.1 4 (a.toNatClampNeg))) ||| ((u).2.1 4 (b.toNatClampNeg))))), (4, .int ((if (u.2.1 5 (c).toNatClampNeg + 1) < (if (u.2.1 5 (a).toNatClampNeg + 1) < (u.2.1 5 (b).toNatClampNeg + 1) then (u.2.1 5 (b).toNatClampNeg + 1) else (u.2.1 5 (a).toNatClampNeg + 1)) then (if (u.2.1 5 (a).toNatClampNeg + 1) < (u.2.1 5 (b).toNatClampNeg + 1) then (u.2.1 5 (b).toNatClampNeg + 1) else (u.2.1 5 (a).toNatClampNeg + 1)) else (u.2.1 5 (c).toNatClampNeg + 1)))), (0, .ref (ad 0)), (1, .int (c)), (2, .int (a)), (3, .int (b))]) => ?_)
  refine lv_aload_n hx hb d_TM_choice_54 rfl (lv_at hl 2 rfl) ?_
  refine lv_iconst (v := 5) hx hb d_TM_choice_55 (by decide) ?_
  refine lv_iload_n hx hb d_TM_choice_56 rfl (lv_at hl 3 rfl) ?_
  refine lv_iload_n hx hb d_TM_choice_57 rfl (lv_at hl 4 rfl) ?_
  refine lv_iload_n hx hb d_TM_choice_58 rfl (lv_at hl 5 rfl) ?_
  refine lv_iload hx hb d_TM_choice_59 (lv_at hl 0 rfl) ?_
  refine lv_iload hx hb d_TM_choice_61 (lv_at hl 1 rfl) ?_
  refine tx_cIf X h (tx_rV (q0 := 0) X h hE (c_TM_addExpression l D cI cL cZ ad hst (n) (5) (c) (a) (b) (((((u).2.1 4 (c.toNatClampNeg)) ||| ((u).2.1 4 (a.toNatClampNeg))) ||| ((u).2.1 4 (b.toNatClampNeg)))) ((if (u.2.1 5 (c).toNatClampNeg + 1) < (if (u.2.1 5 (a).toNatClampNeg + 1) < (u.2.1 5 (b).toNatClampNeg + 1) then (u.2.1 5 (b).toNatClampNeg + 1) else (u.2.1 5 (a).toNatClampNeg + 1)) then (if (u.2.1 5 (a).toNatClampNeg + 1) < (u.2.1 5 (b).toNatClampNeg + 1) then (u.2.1 5 (b).toNatClampNeg + 1) else (u.2.1 5 (a).toNatClampNeg + 1)) else (u.2.1 5 (c).toNatClampNeg + 1))) u (hn) (hn2) _) ki_TM_addExpression kw_184 rfl rfl rfl rfl rfl ⟨by decide, by decide⟩ rfl hl.1 rfl (Nat.le_of_ble_eq_true rfl) d_TM_choice_63 ⟨by decide, by decide⟩) (fun E9 u9 q9 ce9 H locs hx9 h e91 e92 e93 => tx_out (w := tm_wC ad cI cL cZ) (u := u9) X htab h e91 e92 e93 (Or.inr ⟨hx9.1, hx9.2.1, (fun q => q.elim f2 (fun q => q.elim f7 f12)), hx9.2.2⟩)) (fun H locs f63 h => ?_)
  exact tx_iret (w := tm_wC ad cI cL cZ) (u := (cs_add u (n) (5) (c) (a) (b) (((((u).2.1 4 (c.toNatClampNeg)) ||| ((u).2.1 4 (a.toNatClampNeg))) ||| ((u).2.1 4 (b.toNatClampNeg)))) ((if (u.2.1 5 (c).toNatClampNeg + 1) < (if (u.2.1 5 (a).toNatClampNeg + 1) < (u.2.1 5 (b).toNatClampNeg + 1) then (u.2.1 5 (b).toNatClampNeg + 1) else (u.2.1 5 (a).toNatClampNeg + 1)) then (if (u.2.1 5 (a).toNatClampNeg + 1) < (u.2.1 5 (b).toNatClampNeg + 1) then (u.2.1 5 (b).toNatClampNeg + 1) else (u.2.1 5 (a).toNatClampNeg + 1)) else (u.2.1 5 (c).toNatClampNeg + 1))))) X h (⟨⟨rfl, rfl⟩, (fun q => q.elim f2 (fun q => q.elim f7 f12)), f63⟩) d_TM_choice_66
theorem d_TM_free_0 : decode b_TM_free 0 = .ok (.aload_n 0, 1) := by decide +kernel
theorem d_TM_free_1 : decode b_TM_free 1 = .ok (.iload_n 1, 1) := by decide +kernel
theorem d_TM_free_2 : decode b_TM_free 2 = .ok (.invokevirtual 54, 3) := by decide +kernel
theorem d_TM_free_5 : decode b_TM_free 5 = .ok (.aload_n 0, 1) := by decide +kernel
theorem d_TM_free_6 : decode b_TM_free 6 = .ok (.getfield 10, 3) := by decide +kernel
theorem d_TM_free_9 : decode b_TM_free 9 = .ok (.getfield 37, 3) := by decide +kernel
theorem d_TM_free_12 : decode b_TM_free 12 = .ok (.iload_n 1, 1) := by decide +kernel
theorem d_TM_free_13 : decode b_TM_free 13 = .ok (.iaload, 1) := by decide +kernel
theorem d_TM_free_14 : decode b_TM_free 14 = .ok (.ireturn, 1) := by decide +kernel
set_option maxHeartbeats 4000000 in
set_option maxRecDepth 100000 in
theorem c_TM_free (l : Launch) (D : va_G) (cI cL cZ : ClassId) (ad : Nat → Nat) (hst : l.stackTraces = false) (n : Nat) (e : Int32) (u : tm_SC) (hn : u.1 11 = nI n) (hn2 : n ≤ 100) : tx_I l y_TM_free b_TM_free 2 .int ({ frames := 7, cells := 1, slots := 6, locals := 111 } : Room) D (tm_yC cI cL cZ) (tm_wC ad cI cL cZ) [.ref (ad 0), .int (e)] u (fun r u' => (r = (u.2.1 4 e.toNatClampNeg) ∧ u' = u) ∧ ¬ cs_np u e) (fun E u' => E = "java/lang/IllegalArgumentException" ∧ u' = u ∧ cs_np u e) := by
  intro sz
  refine tx_of (Qc := fun A => va_Qi (fun r u' => (r = (u.2.1 4 e.toNatClampNeg) ∧ u' = u) ∧ ¬ cs_np u e) (fun u' t => tm_B D (tm_yC cI cL cZ) A (tm_wC ad cI cL cZ u') t) A) (XC := fun A => tx_X D (tm_yC cI cL cZ) (tm_wC ad cI cL cZ) A (fun E u' => E = "java/lang/IllegalArgumentException" ∧ u' = u ∧ cs_np u e)) (by decide) (Nat.le_of_ble_eq_true rfl) ?_ sz
  intro pg eg sg mg bel met cg A ls X h hl hE htab
  have hx := X.1.1
  have hb := X.1.2.1
  have hl : lv_has ls 2 [(0, .ref (ad 0)), (1, .int (e))] := hl
  refine lv_aload_n hx hb d_TM_free_0 rfl (lv_at hl 0 rfl) ?_
  refine lv_iload_n hx hb d_TM_free_1 rfl (lv_at hl 1 rfl) ?_
  refine tx_cVf X h (tx_rV (q0 := 0) X h hE (c_TM_requireExpression l D cI cL cZ ad hst (e) u  _) ki_TM_requireExpression kw_296 rfl rfl rfl rfl rfl ⟨by decide, by decide⟩ rfl hl.1 rfl (Nat.le_of_ble_eq_true rfl) d_TM_free_2 ⟨by decide, by decide⟩) (fun E9 u9 q9 ce9 H locs hx9 h e91 e92 e93 => tx_out (w := tm_wC ad cI cL cZ) (u := u9) X htab h e91 e92 e93 (hx9)) (fun H locs f2 h => ?_)
  refine lv_aload_n hx hb d_TM_free_5 rfl (lv_at hl 0 rfl) ?_
  refine tm_get X h uw_TM 0 rfl rfl 0 (by decide) kw_165 rfl rfl d_TM_free_6 ?_
  refine tm_getN X h uw_EX 1 rfl rfl 4 (by decide) kw_45 rfl rfl d_TM_free_9 ?_
  refine lv_iload_n hx hb d_TM_free_12 rfl (lv_at hl 1 rfl) ?_
  refine tm_iald X h 6 0 rfl rfl (e.toNatClampNeg) ((cs_pt1 f2 hn hn2).1) ((cs_pt1 f2 hn hn2).2) (by decide) d_TM_free_13 ?_
  exact tx_iret (w := tm_wC ad cI cL cZ) (u := u) X h (⟨⟨rfl, rfl⟩, f2⟩) d_TM_free_14
theorem d_TM_result_0 : decode b_TM_result 0 = .ok (.aload_n 0, 1) := by decide +kernel
theorem d_TM_result_1 : decode b_TM_result 1 = .ok (.invokevirtual 93, 3) := by decide +kernel
theorem d_TM_result_4 : decode b_TM_result 4 = .ok (.aload_n 0, 1) := by decide +kernel
theorem d_TM_result_5 : decode b_TM_result 5 = .ok (.getfield 21, 3) := by decide +kernel
theorem d_TM_result_8 : decode b_TM_result 8 = .ok (.getfield 96, 3) := by decide +kernel
theorem d_TM_result_11 : decode b_TM_result 11 = .ok (.ireturn, 1) := by decide +kernel
set_option maxHeartbeats 4000000 in
set_option maxRecDepth 100000 in
theorem c_TM_result (l : Launch) (D : va_G) (cI cL cZ : ClassId) (ad : Nat → Nat) (hst : l.stackTraces = false)  (u : tm_SC)  : tx_I l y_TM_result b_TM_result 1 .int ({ frames := 7, cells := 1, slots := 6, locals := 110 } : Room) D (tm_yC cI cL cZ) (tm_wC ad cI cL cZ) [.ref (ad 0)] u (fun r u' => (r = (u.1 8) ∧ u' = u) ∧ u.1 1 = 2) (fun E u' => E = "java/lang/IllegalStateException" ∧ u' = u ∧ ¬ u.1 1 = 2) := by
  intro sz
  refine tx_of (Qc := fun A => va_Qi (fun r u' => (r = (u.1 8) ∧ u' = u) ∧ u.1 1 = 2) (fun u' t => tm_B D (tm_yC cI cL cZ) A (tm_wC ad cI cL cZ u') t) A) (XC := fun A => tx_X D (tm_yC cI cL cZ) (tm_wC ad cI cL cZ) A (fun E u' => E = "java/lang/IllegalStateException" ∧ u' = u ∧ ¬ u.1 1 = 2)) (by decide) (Nat.le_of_ble_eq_true rfl) ?_ sz
  intro pg eg sg mg bel met cg A ls X h hl hE htab
  have hx := X.1.1
  have hb := X.1.2.1
  have hl : lv_has ls 1 [(0, .ref (ad 0))] := hl
  refine lv_aload_n hx hb d_TM_result_0 rfl (lv_at hl 0 rfl) ?_
  refine tx_cVf X h (tx_rV (q0 := 0) X h hE (c_TM_requireEnded l D cI cL cZ ad hst  u  _) ki_TM_requireEnded kw_554 rfl rfl rfl rfl rfl ⟨by decide, by decide⟩ rfl hl.1 rfl (Nat.le_of_ble_eq_true rfl) d_TM_result_1 ⟨by decide, by decide⟩) (fun E9 u9 q9 ce9 H locs hx9 h e91 e92 e93 => tx_out (w := tm_wC ad cI cL cZ) (u := u9) X htab h e91 e92 e93 (hx9)) (fun H locs f1 h => ?_)
  refine lv_aload_n hx hb d_TM_result_4 rfl (lv_at hl 0 rfl) ?_
  refine tm_get X h uw_TM 0 rfl rfl 1 (by decide) kw_166 rfl rfl d_TM_result_5 ?_
  refine tm_getN X h uw_RN 8 rfl rfl 13 (by decide) kw_130 rfl rfl d_TM_result_8 ?_
  exact tx_iret (w := tm_wC ad cI cL cZ) (u := u) X h (⟨⟨rfl, rfl⟩, f1⟩) d_TM_result_11
theorem d_TM_isClosure_0 : decode b_TM_isClosure 0 = .ok (.aload_n 0, 1) := by decide +kernel
theorem d_TM_isClosure_1 : decode b_TM_isClosure 1 = .ok (.invokevirtual 93, 3) := by decide +kernel
theorem d_TM_isClosure_4 : decode b_TM_isClosure 4 = .ok (.aload_n 0, 1) := by decide +kernel
theorem d_TM_isClosure_5 : decode b_TM_isClosure 5 = .ok (.getfield 21, 3) := by decide +kernel
theorem d_TM_isClosure_8 : decode b_TM_isClosure 8 = .ok (.getfield 99, 3) := by decide +kernel
theorem d_TM_isClosure_11 : decode b_TM_isClosure 11 = .ok (.ireturn, 1) := by decide +kernel
set_option maxHeartbeats 4000000 in
set_option maxRecDepth 100000 in
theorem c_TM_isClosure (l : Launch) (D : va_G) (cI cL cZ : ClassId) (ad : Nat → Nat) (hst : l.stackTraces = false)  (u : tm_SC) (hz : tm_b1 (u.1 9)) : tx_I l y_TM_isClosure b_TM_isClosure 1 .boolean ({ frames := 7, cells := 1, slots := 6, locals := 110 } : Room) D (tm_yC cI cL cZ) (tm_wC ad cI cL cZ) [.ref (ad 0)] u (fun r u' => (r = (u.1 9) ∧ u' = u) ∧ u.1 1 = 2) (fun E u' => E = "java/lang/IllegalStateException" ∧ u' = u ∧ ¬ u.1 1 = 2) := by
  intro sz
  refine tx_of (Qc := fun A => va_Qi (fun r u' => (r = (u.1 9) ∧ u' = u) ∧ u.1 1 = 2) (fun u' t => tm_B D (tm_yC cI cL cZ) A (tm_wC ad cI cL cZ u') t) A) (XC := fun A => tx_X D (tm_yC cI cL cZ) (tm_wC ad cI cL cZ) A (fun E u' => E = "java/lang/IllegalStateException" ∧ u' = u ∧ ¬ u.1 1 = 2)) (by decide) (Nat.le_of_ble_eq_true rfl) ?_ sz
  intro pg eg sg mg bel met cg A ls X h hl hE htab
  have hx := X.1.1
  have hb := X.1.2.1
  have hl : lv_has ls 1 [(0, .ref (ad 0))] := hl
  refine lv_aload_n hx hb d_TM_isClosure_0 rfl (lv_at hl 0 rfl) ?_
  refine tx_cVf X h (tx_rV (q0 := 0) X h hE (c_TM_requireEnded l D cI cL cZ ad hst  u  _) ki_TM_requireEnded kw_554 rfl rfl rfl rfl rfl ⟨by decide, by decide⟩ rfl hl.1 rfl (Nat.le_of_ble_eq_true rfl) d_TM_isClosure_1 ⟨by decide, by decide⟩) (fun E9 u9 q9 ce9 H locs hx9 h e91 e92 e93 => tx_out (w := tm_wC ad cI cL cZ) (u := u9) X htab h e91 e92 e93 (hx9)) (fun H locs f1 h => ?_)
  refine lv_aload_n hx hb d_TM_isClosure_4 rfl (lv_at hl 0 rfl) ?_
  refine tm_get X h uw_TM 0 rfl rfl 1 (by decide) kw_166 rfl rfl d_TM_isClosure_5 ?_
  refine tm_getN X h uw_RN 8 rfl rfl 14 (by decide) kw_132 rfl rfl d_TM_isClosure_8 ?_
  exact tx_zret (w := tm_wC ad cI cL cZ) (u := u) X h (hz.narw) (⟨⟨rfl, rfl⟩, f1⟩) d_TM_isClosure_11
