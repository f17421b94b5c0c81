theorem kw_6 : (Jvm.Cond.initialized "TrimmedMachineModel") ∈ tm_wa := tm_tb (List.mem_append_left _ (List.mem_of_getElem? (i := 6) (by decide +kernel))) rfl
theorem kw_572 : (Jvm.Cond.fieldLink "TrimmedMachineModel" (66 : Nat) "TrimmedMachineModel" "expressions" "I") ∈ tm_wa := tm_tb (List.mem_append_right _ (List.mem_append_right _ (List.mem_append_left _ (List.mem_of_getElem? (i := 92) (by decide +kernel))))) rfl
theorem kw_573 : (Jvm.Cond.fieldLink "TrimmedMachineModel" (7 : Nat) "TrimmedMachineModel" "kind" "[I") ∈ tm_wa := tm_tb (List.mem_append_right _ (List.mem_append_right _ (List.mem_append_left _ (List.mem_of_getElem? (i := 93) (by decide +kernel))))) rfl
theorem kw_574 : (Jvm.Cond.fieldLink "TrimmedMachineModel" (13 : Nat) "TrimmedMachineModel" "one" "[I") ∈ tm_wa := tm_tb (List.mem_append_right _ (List.mem_append_right _ (List.mem_append_left _ (List.mem_of_getElem? (i := 94) (by decide +kernel))))) rfl
theorem kw_575 : (Jvm.Cond.fieldLink "TrimmedMachineModel" (16 : Nat) "TrimmedMachineModel" "two" "[I") ∈ tm_wa := tm_tb (List.mem_append_right _ (List.mem_append_right _ (List.mem_append_left _ (List.mem_of_getElem? (i := 95) (by decide +kernel))))) rfl
theorem kw_576 : (Jvm.Cond.fieldLink "TrimmedMachineModel" (19 : Nat) "TrimmedMachineModel" "three" "[I") ∈ tm_wa := tm_tb (List.mem_append_right _ (List.mem_append_right _ (List.mem_append_left _ (List.mem_of_getElem? (i := 96) (by decide +kernel))))) rfl
theorem kw_577 : (Jvm.Cond.fieldLink "TrimmedMachineModel" (22 : Nat) "TrimmedMachineModel" "free" "[I") ∈ tm_wa := tm_tb (List.mem_append_right _ (List.mem_append_right _ (List.mem_append_left _ (List.mem_of_getElem? (i := 97) (by decide +kernel))))) rfl
theorem kw_578 : (Jvm.Cond.fieldLink "TrimmedMachineModel" (25 : Nat) "TrimmedMachineModel" "height" "[I") ∈ tm_wa := tm_tb (List.mem_append_right _ (List.mem_append_right _ (List.mem_append_left _ (List.mem_of_getElem? (i := 98) (by decide +kernel))))) rfl
theorem kw_602 : (Jvm.Cond.fieldLink "TrimmedMachineModel" (62 : Nat) "TrimmedMachineModel" "thrown" "I") ∈ tm_wa := tm_tb (List.mem_append_right _ (List.mem_append_right _ (List.mem_append_left _ (List.mem_of_getElem? (i := 122) (by decide +kernel))))) rfl
theorem kw_667 : (Jvm.Cond.instanceMethod ({ cls := "TrimmedMachineModel", name := "thrown", desc := "()I" } : Jvm.MethodName)) ∈ tm_wa := tm_tb (List.mem_append_right _ (List.mem_append_right _ (List.mem_append_left _ (List.mem_of_getElem? (i := 187) (by decide +kernel))))) rfl
theorem kw_668 : (Jvm.Cond.selects "TrimmedMachineModel" ({ cls := "TrimmedMachineModel", name := "thrown", desc := "()I" } : Jvm.MethodName) ({ cls := "TrimmedMachineModel", name := "thrown", desc := "()I" } : Jvm.MethodName)) ∈ tm_wa := tm_tb (List.mem_append_right _ (List.mem_append_right _ (List.mem_append_left _ (List.mem_of_getElem? (i := 188) (by decide +kernel))))) rfl
theorem kw_669 : (Jvm.Cond.code ({ cls := "TrimmedMachineModel", name := "thrown", desc := "()I" } : Jvm.MethodName) prog_8_method_2_code (1 : Nat) (Option.some Jvm.ClassFile.FieldType.int)) ∈ tm_wa := tm_tb (List.mem_append_right _ (List.mem_append_right _ (List.mem_append_left _ (List.mem_of_getElem? (i := 189) (rfl))))) rfl
theorem kw_671 : (Jvm.Cond.instanceMethod ({ cls := "TrimmedMachineModel", name := "number", desc := "(I)I" } : Jvm.MethodName)) ∈ tm_wa := tm_tb (List.mem_append_right _ (List.mem_append_right _ (List.mem_append_left _ (List.mem_of_getElem? (i := 191) (by decide +kernel))))) rfl
theorem kw_672 : (Jvm.Cond.selects "TrimmedMachineModel" ({ cls := "TrimmedMachineModel", name := "number", desc := "(I)I" } : Jvm.MethodName) ({ cls := "TrimmedMachineModel", name := "number", desc := "(I)I" } : Jvm.MethodName)) ∈ tm_wa := tm_tb (List.mem_append_right _ (List.mem_append_right _ (List.mem_append_left _ (List.mem_of_getElem? (i := 192) (by decide +kernel))))) rfl
theorem kw_673 : (Jvm.Cond.code ({ cls := "TrimmedMachineModel", name := "number", desc := "(I)I" } : Jvm.MethodName) prog_8_method_9_code (3 : Nat) (Option.some Jvm.ClassFile.FieldType.int)) ∈ tm_wa := tm_tb (List.mem_append_right _ (List.mem_append_right _ (List.mem_append_left _ (List.mem_of_getElem? (i := 193) (rfl))))) rfl
theorem kw_674 : (Jvm.Cond.methodLink "TrimmedMachineModel" (73 : Nat) ({ cls := "TrimmedMachineModel", name := "make", desc := "(ZIIIIII)I" } : Jvm.MethodName)) ∈ tm_wa := tm_tb (List.mem_append_right _ (List.mem_append_right _ (List.mem_append_left _ (List.mem_of_getElem? (i := 194) (by decide +kernel))))) rfl
theorem kw_676 : (Jvm.Cond.instanceMethod ({ cls := "TrimmedMachineModel", name := "make", desc := "(ZIIIIII)I" } : Jvm.MethodName)) ∈ tm_wa := tm_tb (List.mem_append_right _ (List.mem_append_right _ (List.mem_append_left _ (List.mem_of_getElem? (i := 196) (by decide +kernel))))) rfl
theorem kw_677 : (Jvm.Cond.code ({ cls := "TrimmedMachineModel", name := "make", desc := "(ZIIIIII)I" } : Jvm.MethodName) prog_8_method_7_code (8 : Nat) (Option.some Jvm.ClassFile.FieldType.int)) ∈ tm_wa := tm_tb (List.mem_append_right _ (List.mem_append_right _ (List.mem_append_left _ (List.mem_of_getElem? (i := 197) (rfl))))) rfl
theorem kw_679 : (Jvm.Cond.instanceMethod ({ cls := "TrimmedMachineModel", name := "variable", desc := "(I)I" } : Jvm.MethodName)) ∈ tm_wa := tm_tb (List.mem_append_right _ (List.mem_append_right _ (List.mem_append_left _ (List.mem_of_getElem? (i := 199) (by decide +kernel))))) rfl
theorem kw_680 : (Jvm.Cond.selects "TrimmedMachineModel" ({ cls := "TrimmedMachineModel", name := "variable", desc := "(I)I" } : Jvm.MethodName) ({ cls := "TrimmedMachineModel", name := "variable", desc := "(I)I" } : Jvm.MethodName)) ∈ tm_wa := tm_tb (List.mem_append_right _ (List.mem_append_right _ (List.mem_append_left _ (List.mem_of_getElem? (i := 200) (by decide +kernel))))) rfl
theorem kw_681 : (Jvm.Cond.code ({ cls := "TrimmedMachineModel", name := "variable", desc := "(I)I" } : Jvm.MethodName) prog_8_method_10_code (2 : Nat) (Option.some Jvm.ClassFile.FieldType.int)) ∈ tm_wa := tm_tb (List.mem_append_right _ (List.mem_append_right _ (List.mem_append_left _ (List.mem_of_getElem? (i := 201) (rfl))))) rfl
theorem kw_682 : (Jvm.Cond.methodLink "TrimmedMachineModel" (77 : Nat) ({ cls := "TrimmedMachineModel", name := "isVariable", desc := "(I)Z" } : Jvm.MethodName)) ∈ tm_wa := tm_tb (List.mem_append_right _ (List.mem_append_right _ (List.mem_append_left _ (List.mem_of_getElem? (i := 202) (by decide +kernel))))) rfl
theorem kw_683 : (Jvm.Cond.static ({ cls := "TrimmedMachineModel", name := "isVariable", desc := "(I)Z" } : Jvm.MethodName)) ∈ tm_wa := tm_tb (List.mem_append_right _ (List.mem_append_right _ (List.mem_append_left _ (List.mem_of_getElem? (i := 203) (by decide +kernel))))) rfl
theorem kw_684 : (Jvm.Cond.code ({ cls := "TrimmedMachineModel", name := "isVariable", desc := "(I)Z" } : Jvm.MethodName) prog_8_method_4_code (1 : Nat) (Option.some Jvm.ClassFile.FieldType.boolean)) ∈ tm_wa := tm_tb (List.mem_append_right _ (List.mem_append_right _ (List.mem_append_left _ (List.mem_of_getElem? (i := 204) (rfl))))) rfl
theorem kw_686 : (Jvm.Cond.instanceMethod ({ cls := "TrimmedMachineModel", name := "function", desc := "(III)I" } : Jvm.MethodName)) ∈ tm_wa := tm_tb (List.mem_append_right _ (List.mem_append_right _ (List.mem_append_left _ (List.mem_of_getElem? (i := 206) (by decide +kernel))))) rfl
theorem kw_687 : (Jvm.Cond.selects "TrimmedMachineModel" ({ cls := "TrimmedMachineModel", name := "function", desc := "(III)I" } : Jvm.MethodName) ({ cls := "TrimmedMachineModel", name := "function", desc := "(III)I" } : Jvm.MethodName)) ∈ tm_wa := tm_tb (List.mem_append_right _ (List.mem_append_right _ (List.mem_append_left _ (List.mem_of_getElem? (i := 207) (by decide +kernel))))) rfl
theorem kw_688 : (Jvm.Cond.code ({ cls := "TrimmedMachineModel", name := "function", desc := "(III)I" } : Jvm.MethodName) prog_8_method_11_code (6 : Nat) (Option.some Jvm.ClassFile.FieldType.int)) ∈ tm_wa := tm_tb (List.mem_append_right _ (List.mem_append_right _ (List.mem_append_left _ (List.mem_of_getElem? (i := 208) (rfl))))) rfl
theorem kw_689 : (Jvm.Cond.methodLink "TrimmedMachineModel" (69 : Nat) ({ cls := "TrimmedMachineModel", name := "isPart", desc := "(I)Z" } : Jvm.MethodName)) ∈ tm_wa := tm_tb (List.mem_append_right _ (List.mem_append_right _ (List.mem_append_left _ (List.mem_of_getElem? (i := 209) (by decide +kernel))))) rfl
theorem kw_691 : (Jvm.Cond.instanceMethod ({ cls := "TrimmedMachineModel", name := "isPart", desc := "(I)Z" } : Jvm.MethodName)) ∈ tm_wa := tm_tb (List.mem_append_right _ (List.mem_append_right _ (List.mem_append_left _ (List.mem_of_getElem? (i := 211) (by decide +kernel))))) rfl
theorem kw_692 : (Jvm.Cond.code ({ cls := "TrimmedMachineModel", name := "isPart", desc := "(I)Z" } : Jvm.MethodName) prog_8_method_3_code (2 : Nat) (Option.some Jvm.ClassFile.FieldType.boolean)) ∈ tm_wa := tm_tb (List.mem_append_right _ (List.mem_append_right _ (List.mem_append_left _ (List.mem_of_getElem? (i := 212) (rfl))))) rfl
theorem kw_693 : (Jvm.Cond.methodLink "TrimmedMachineModel" (80 : Nat) ({ cls := "TrimmedMachineModel", name := "freeOf", desc := "(I)I" } : Jvm.MethodName)) ∈ tm_wa := tm_tb (List.mem_append_right _ (List.mem_append_right _ (List.mem_append_left _ (List.mem_of_getElem? (i := 213) (by decide +kernel))))) rfl
theorem kw_695 : (Jvm.Cond.instanceMethod ({ cls := "TrimmedMachineModel", name := "freeOf", desc := "(I)I" } : Jvm.MethodName)) ∈ tm_wa := tm_tb (List.mem_append_right _ (List.mem_append_right _ (List.mem_append_left _ (List.mem_of_getElem? (i := 215) (by decide +kernel))))) rfl
theorem kw_696 : (Jvm.Cond.code ({ cls := "TrimmedMachineModel", name := "freeOf", desc := "(I)I" } : Jvm.MethodName) prog_8_method_8_code (2 : Nat) (Option.some Jvm.ClassFile.FieldType.int)) ∈ tm_wa := tm_tb (List.mem_append_right _ (List.mem_append_right _ (List.mem_append_left _ (List.mem_of_getElem? (i := 216) (rfl))))) rfl
theorem kw_697 : (Jvm.Cond.methodLink "TrimmedMachineModel" (84 : Nat) ({ cls := "TrimmedMachineModel", name := "highOf", desc := "(I)I" } : Jvm.MethodName)) ∈ tm_wa := tm_tb (List.mem_append_right _ (List.mem_append_right _ (List.mem_append_left _ (List.mem_of_getElem? (i := 217) (by decide +kernel))))) rfl
theorem kw_699 : (Jvm.Cond.instanceMethod ({ cls := "TrimmedMachineModel", name := "highOf", desc := "(I)I" } : Jvm.MethodName)) ∈ tm_wa := tm_tb (List.mem_append_right _ (List.mem_append_right _ (List.mem_append_left _ (List.mem_of_getElem? (i := 219) (by decide +kernel))))) rfl
theorem kw_700 : (Jvm.Cond.code ({ cls := "TrimmedMachineModel", name := "highOf", desc := "(I)I" } : Jvm.MethodName) prog_8_method_5_code (2 : Nat) (Option.some Jvm.ClassFile.FieldType.int)) ∈ tm_wa := tm_tb (List.mem_append_right _ (List.mem_append_right _ (List.mem_append_left _ (List.mem_of_getElem? (i := 220) (rfl))))) rfl
theorem kw_702 : (Jvm.Cond.instanceMethod ({ cls := "TrimmedMachineModel", name := "call", desc := "(II)I" } : Jvm.MethodName)) ∈ tm_wa := tm_tb (List.mem_append_right _ (List.mem_append_right _ (List.mem_append_left _ (List.mem_of_getElem? (i := 222) (by decide +kernel))))) rfl
theorem kw_703 : (Jvm.Cond.selects "TrimmedMachineModel" ({ cls := "TrimmedMachineModel", name := "call", desc := "(II)I" } : Jvm.MethodName) ({ cls := "TrimmedMachineModel", name := "call", desc := "(II)I" } : Jvm.MethodName)) ∈ tm_wa := tm_tb (List.mem_append_right _ (List.mem_append_right _ (List.mem_append_left _ (List.mem_of_getElem? (i := 223) (by decide +kernel))))) rfl
theorem kw_704 : (Jvm.Cond.code ({ cls := "TrimmedMachineModel", name := "call", desc := "(II)I" } : Jvm.MethodName) prog_8_method_12_code (3 : Nat) (Option.some Jvm.ClassFile.FieldType.int)) ∈ tm_wa := tm_tb (List.mem_append_right _ (List.mem_append_right _ (List.mem_append_left _ (List.mem_of_getElem? (i := 224) (rfl))))) rfl
theorem kw_705 : (Jvm.Cond.methodLink "TrimmedMachineModel" (87 : Nat) ({ cls := "TrimmedMachineModel", name := "greatest", desc := "(II)I" } : Jvm.MethodName)) ∈ tm_wa := tm_tb (List.mem_append_right _ (List.mem_append_right _ (List.mem_append_left _ (List.mem_of_getElem? (i := 225) (by decide +kernel))))) rfl
theorem kw_706 : (Jvm.Cond.static ({ cls := "TrimmedMachineModel", name := "greatest", desc := "(II)I" } : Jvm.MethodName)) ∈ tm_wa := tm_tb (List.mem_append_right _ (List.mem_append_right _ (List.mem_append_left _ (List.mem_of_getElem? (i := 226) (by decide +kernel))))) rfl
theorem kw_707 : (Jvm.Cond.code ({ cls := "TrimmedMachineModel", name := "greatest", desc := "(II)I" } : Jvm.MethodName) prog_8_method_6_code (2 : Nat) (Option.some Jvm.ClassFile.FieldType.int)) ∈ tm_wa := tm_tb (List.mem_append_right _ (List.mem_append_right _ (List.mem_append_left _ (List.mem_of_getElem? (i := 227) (rfl))))) rfl
theorem kw_709 : (Jvm.Cond.instanceMethod ({ cls := "TrimmedMachineModel", name := "operation", desc := "(III)I" } : Jvm.MethodName)) ∈ tm_wa := tm_tb (List.mem_append_right _ (List.mem_append_right _ (List.mem_append_left _ (List.mem_of_getElem? (i := 229) (by decide +kernel))))) rfl
theorem kw_710 : (Jvm.Cond.selects "TrimmedMachineModel" ({ cls := "TrimmedMachineModel", name := "operation", desc := "(III)I" } : Jvm.MethodName) ({ cls := "TrimmedMachineModel", name := "operation", desc := "(III)I" } : Jvm.MethodName)) ∈ tm_wa := tm_tb (List.mem_append_right _ (List.mem_append_right _ (List.mem_append_left _ (List.mem_of_getElem? (i := 230) (by decide +kernel))))) rfl
theorem kw_711 : (Jvm.Cond.code ({ cls := "TrimmedMachineModel", name := "operation", desc := "(III)I" } : Jvm.MethodName) prog_8_method_13_code (5 : Nat) (Option.some Jvm.ClassFile.FieldType.int)) ∈ tm_wa := tm_tb (List.mem_append_right _ (List.mem_append_right _ (List.mem_append_left _ (List.mem_of_getElem? (i := 231) (rfl))))) rfl
theorem kw_713 : (Jvm.Cond.instanceMethod ({ cls := "TrimmedMachineModel", name := "choice", desc := "(III)I" } : Jvm.MethodName)) ∈ tm_wa := tm_tb (List.mem_append_right _ (List.mem_append_right _ (List.mem_append_left _ (List.mem_of_getElem? (i := 233) (by decide +kernel))))) rfl
theorem kw_714 : (Jvm.Cond.selects "TrimmedMachineModel" ({ cls := "TrimmedMachineModel", name := "choice", desc := "(III)I" } : Jvm.MethodName) ({ cls := "TrimmedMachineModel", name := "choice", desc := "(III)I" } : Jvm.MethodName)) ∈ tm_wa := tm_tb (List.mem_append_right _ (List.mem_append_right _ (List.mem_append_left _ (List.mem_of_getElem? (i := 234) (by decide +kernel))))) rfl
theorem kw_715 : (Jvm.Cond.code ({ cls := "TrimmedMachineModel", name := "choice", desc := "(III)I" } : Jvm.MethodName) prog_8_method_14_code (5 : Nat) (Option.some Jvm.ClassFile.FieldType.int)) ∈ tm_wa := tm_tb (List.mem_append_right _ (List.mem_append_right _ (List.mem_append_left _ (List.mem_of_getElem? (i := 235) (rfl))))) rfl
theorem kw_717 : (Jvm.Cond.instanceMethod ({ cls := "TrimmedMachineModel", name := "free", desc := "(I)I" } : Jvm.MethodName)) ∈ tm_wa := tm_tb (List.mem_append_right _ (List.mem_append_right _ (List.mem_append_left _ (List.mem_of_getElem? (i := 237) (by decide +kernel))))) rfl
theorem kw_718 : (Jvm.Cond.selects "TrimmedMachineModel" ({ cls := "TrimmedMachineModel", name := "free", desc := "(I)I" } : Jvm.MethodName) ({ cls := "TrimmedMachineModel", name := "free", desc := "(I)I" } : Jvm.MethodName)) ∈ tm_wa := tm_tb (List.mem_append_right _ (List.mem_append_right _ (List.mem_append_left _ (List.mem_of_getElem? (i := 238) (by decide +kernel))))) rfl
theorem kw_719 : (Jvm.Cond.code ({ cls := "TrimmedMachineModel", name := "free", desc := "(I)I" } : Jvm.MethodName) prog_8_method_15_code (2 : Nat) (Option.some Jvm.ClassFile.FieldType.int)) ∈ tm_wa := tm_tb (List.mem_append_right _ (List.mem_append_right _ (List.mem_append_left _ (List.mem_of_getElem? (i := 239) (rfl))))) rfl
abbrev y_MD_thrown : MethodName := { cls := "TrimmedMachineModel", name := "thrown", desc := "()I" }
abbrev b_MD_thrown : ByteArray := prog_8_method_2_code
theorem ki_MD_thrown : tm_ki y_MD_thrown b_MD_thrown 1 (some .int) 0 := ⟨⟨kw_6, kw_669, by decide, by decide, by decide +kernel⟩, kw_667, kw_668⟩
abbrev y_MD_isPart : MethodName := { cls := "TrimmedMachineModel", name := "isPart", desc := "(I)Z" }
abbrev b_MD_isPart : ByteArray := prog_8_method_3_code
theorem ki_MD_isPart : tm_ki y_MD_isPart b_MD_isPart 2 (some .boolean) 1 := ⟨⟨kw_6, kw_692, by decide, by decide, by decide +kernel⟩, kw_691, tm_sel (n := 31) (List.mem_append_right _ (List.mem_append_right _ (List.mem_append_left _ (List.mem_of_getElem? (i := 6) rfl))))⟩
abbrev y_MD_isVariable : MethodName := { cls := "TrimmedMachineModel", name := "isVariable", desc := "(I)Z" }
abbrev b_MD_isVariable : ByteArray := prog_8_method_4_code
theorem ks_MD_isVariable : tm_ks y_MD_isVariable b_MD_isVariable 1 (some .boolean) 1 := ⟨⟨kw_6, kw_684, by decide, by decide, by decide +kernel⟩, kw_683⟩
abbrev y_MD_highOf : MethodName := { cls := "TrimmedMachineModel", name := "highOf", desc := "(I)I" }
abbrev b_MD_highOf : ByteArray := prog_8_method_5_code
theorem ki_MD_highOf : tm_ki y_MD_highOf b_MD_highOf 2 (some .int) 1 := ⟨⟨kw_6, kw_700, by decide, by decide, by decide +kernel⟩, kw_699, tm_sel (n := 31) (List.mem_append_right _ (List.mem_append_right _ (List.mem_append_left _ (List.mem_of_getElem? (i := 8) rfl))))⟩
abbrev y_MD_freeOf : MethodName := { cls := "TrimmedMachineModel", name := "freeOf", desc := "(I)I" }
abbrev b_MD_freeOf : ByteArray := prog_8_method_8_code
theorem ki_MD_freeOf : tm_ki y_MD_freeOf b_MD_freeOf 2 (some .int) 1 := ⟨⟨kw_6, kw_696, by decide, by decide, by decide +kernel⟩, kw_695, tm_sel (n := 31) (List.mem_append_right _ (List.mem_append_right _ (List.mem_append_left _ (List.mem_of_getElem? (i := 7) rfl))))⟩
abbrev y_MD_greatest : MethodName := { cls := "TrimmedMachineModel", name := "greatest", desc := "(II)I" }
abbrev b_MD_greatest : ByteArray := prog_8_method_6_code
theorem ks_MD_greatest : tm_ks y_MD_greatest b_MD_greatest 2 (some .int) 2 := ⟨⟨kw_6, kw_707, by decide, by decide, by decide +kernel⟩, kw_706⟩
abbrev y_MD_make : MethodName := { cls := "TrimmedMachineModel", name := "make", desc := "(ZIIIIII)I" }
abbrev b_MD_make : ByteArray := prog_8_method_7_code
theorem ki_MD_make : tm_ki y_MD_make b_MD_make 8 (some .int) 7 := ⟨⟨kw_6, kw_677, by decide, by decide, by decide +kernel⟩, kw_676, tm_sel (n := 31) (List.mem_append_right _ (List.mem_append_right _ (List.mem_append_left _ (List.mem_of_getElem? (i := 5) rfl))))⟩
abbrev y_MD_number : MethodName := { cls := "TrimmedMachineModel", name := "number", desc := "(I)I" }
abbrev b_MD_number : ByteArray := prog_8_method_9_code
theorem ki_MD_number : tm_ki y_MD_number b_MD_number 3 (some .int) 1 := ⟨⟨kw_6, kw_673, by decide, by decide, by decide +kernel⟩, kw_671, kw_672⟩
abbrev y_MD_variable : MethodName := { cls := "TrimmedMachineModel", name := "variable", desc := "(I)I" }
abbrev b_MD_variable : ByteArray := prog_8_method_10_code
theorem ki_MD_variable : tm_ki y_MD_variable b_MD_variable 2 (some .int) 1 := ⟨⟨kw_6, kw_681, by decide, by decide, by decide +kernel⟩, kw_679, kw_680⟩
abbrev y_MD_function : MethodName := { cls := "TrimmedMachineModel", name := "function", desc := "(III)I" }
abbrev b_MD_function : ByteArray := prog_8_method_11_code
theorem ki_MD_function : tm_ki y_MD_function b_MD_function 6 (some .int) 3 := ⟨⟨kw_6, kw_688, by decide, by decide, by decide +kernel⟩, kw_686, kw_687⟩
abbrev y_MD_call : MethodName := { cls := "TrimmedMachineModel", name := "call", desc := "(II)I" }
abbrev b_MD_call : ByteArray := prog_8_method_12_code
theorem ki_MD_call : tm_ki y_MD_call b_MD_call 3 (some .int) 2 := ⟨⟨kw_6, kw_704, by decide, by decide, by decide +kernel⟩, kw_702, kw_703⟩
abbrev y_MD_operation : MethodName := { cls := "TrimmedMachineModel", name := "operation", desc := "(III)I" }
abbrev b_MD_operation : ByteArray := prog_8_method_13_code
theorem ki_MD_operation : tm_ki y_MD_operation b_MD_operation 5 (some .int) 3 := ⟨⟨kw_6, kw_711, by decide, by decide, by decide +kernel⟩, kw_709, kw_710⟩
abbrev y_MD_choice : MethodName := { cls := "TrimmedMachineModel", name := "choice", desc := "(III)I" }
abbrev b_MD_choice : ByteArray := prog_8_method_14_code
theorem ki_MD_choice : tm_ki y_MD_choice b_MD_choice 5 (some .int) 3 := ⟨⟨kw_6, kw_715, by decide, by decide, by decide +kernel⟩, kw_713, kw_714⟩
abbrev y_MD_free : MethodName := { cls := "TrimmedMachineModel", name := "free", desc := "(I)I" }
abbrev b_MD_free : ByteArray := prog_8_method_15_code
theorem ki_MD_free : tm_ki y_MD_free b_MD_free 2 (some .int) 1 := ⟨⟨kw_6, kw_719, by decide, by decide, by decide +kernel⟩, kw_717, kw_718⟩
theorem d_MD_thrown_0 : decode b_MD_thrown 0 = .ok (.aload_n 0, 1) := by decide +kernel
theorem d_MD_thrown_1 : decode b_MD_thrown 1 = .ok (.getfield 62, 3) := by decide +kernel
theorem d_MD_thrown_4 : decode b_MD_thrown 4 = .ok (.ireturn, 1) := by decide +kernel
set_option maxHeartbeats 4000000 in
set_option maxRecDepth 100000 in
theorem c_MD_thrown (l : Launch) (D : va_G) (cI cZ : ClassId) (ad : Nat → Nat)  (u : tm_SC)  : tm_I l y_MD_thrown b_MD_thrown 1 .int ({ frames := 0, cells := 0, slots := 0, locals := 0 } : Room) D (tm_yM cI cZ) (tm_wM ad cI cZ) [.ref (ad 0)] u (fun r u' => r = (u.1 13) ∧ u' = u) := by
  intro sz
  refine tm_of (Qc := fun A => va_Qi (fun r u' => r = (u.1 13) ∧ u' = u) (fun u' t => tm_B D (tm_yM cI cZ) A (tm_wM ad cI cZ u') t) A) (by decide) (Nat.le_of_ble_eq_true rfl) ?_ sz
  intro pg eg sg mg bel met cg A ls X h hl hnm
  have hx := X.1.1
  have hb := X.1.2.1
  have hl : lv_has ls 1 [(0, .ref (ad 0))] := hl
  refine lv_aload_n hx hb d_MD_thrown_0 rfl (lv_at hl 0 rfl) ?_
  refine tm_get X h uw_MD 0 rfl rfl 30 (by decide) kw_602 rfl rfl d_MD_thrown_1 ?_
  exact tm_iret (w := tm_wM ad cI cZ) (u := u) X h (⟨rfl, rfl⟩) d_MD_thrown_4
theorem d_MD_isPart_0 : decode b_MD_isPart 0 = .ok (.iload_n 1, 1) := by decide +kernel
theorem d_MD_isPart_1 : decode b_MD_isPart 1 = .ok (.ifCond .lt 15, 3) := by decide +kernel
theorem d_MD_isPart_4 : decode b_MD_isPart 4 = .ok (.iload_n 1, 1) := by decide +kernel
theorem d_MD_isPart_5 : decode b_MD_isPart 5 = .ok (.aload_n 0, 1) := by decide +kernel
theorem d_MD_isPart_6 : decode b_MD_isPart 6 = .ok (.getfield 66, 3) := by decide +kernel
theorem d_MD_isPart_9 : decode b_MD_isPart 9 = .ok (.if_icmp .ge 7, 3) := by decide +kernel
theorem d_MD_isPart_12 : decode b_MD_isPart 12 = .ok (.iconst 1, 1) := by decide +kernel
theorem d_MD_isPart_13 : decode b_MD_isPart 13 = .ok (.goto 4, 3) := by decide +kernel
theorem d_MD_isPart_16 : decode b_MD_isPart 16 = .ok (.iconst 0, 1) := by decide +kernel
theorem d_MD_isPart_17 : decode b_MD_isPart 17 = .ok (.ireturn, 1) := by decide +kernel
set_option maxHeartbeats 4000000 in
set_option maxRecDepth 100000 in
theorem c_MD_isPart (l : Launch) (D : va_G) (cI cZ : ClassId) (ad : Nat → Nat) (e : Int32) (u : tm_SC)  : tm_I l y_MD_isPart b_MD_isPart 2 .boolean ({ frames := 0, cells := 0, slots := 0, locals := 0 } : Room) D (tm_yM cI cZ) (tm_wM ad cI cZ) [.ref (ad 0), .int (e)] u (fun r u' => r = (if ms_np u e then 0 else 1) ∧ u' = u) := by
  intro sz
  refine tm_of (Qc := fun A => va_Qi (fun r u' => r = (if ms_np u e then 0 else 1) ∧ u' = u) (fun u' t => tm_B D (tm_yM cI cZ) A (tm_wM ad cI cZ u') t) A) (by decide) (Nat.le_of_ble_eq_true rfl) ?_ sz
  intro pg eg sg mg bel met cg A ls X h hl hnm
  have hx := X.1.1
  have hb := X.1.2.1
  have hl : lv_has ls 2 [(0, .ref (ad 0)), (1, .int (e))] := hl
  refine lv_iload_n hx hb d_MD_isPart_0 rfl (lv_at hl 1 rfl) ?_
  refine lv_if_lt hx hb d_MD_isPart_1 (tgt := 16) rfl (fun h1t => ?_) (fun h1f => ?_)
  · refine lv_iconst (v := 0) hx hb d_MD_isPart_16 (by decide) ?_
    exact tm_zret (w := tm_wM ad cI cZ) (u := u) X h (rfl) (⟨(if_pos (Or.inl h1t)).symm, rfl⟩) d_MD_isPart_17
  · refine lv_iload_n hx hb d_MD_isPart_4 rfl (lv_at hl 1 rfl) ?_
    refine lv_aload_n hx hb d_MD_isPart_5 rfl (lv_at hl 0 rfl) ?_
    refine tm_get X h uw_MD 0 rfl rfl 0 (by decide) kw_572 rfl rfl d_MD_isPart_6 ?_
    refine lv_icmp_ge hx hb d_MD_isPart_9 (tgt := 16) rfl (fun h9t => ?_) (fun h9f => ?_)
    · refine lv_iconst (v := 0) hx hb d_MD_isPart_16 (by decide) ?_
      exact tm_zret (w := tm_wM ad cI cZ) (u := u) X h (rfl) (⟨(if_pos (Or.inr h9t)).symm, rfl⟩) d_MD_isPart_17
    · refine lv_iconst (v := 1) hx hb d_MD_isPart_12 (by decide) ?_
      refine lv_goto hx hb d_MD_isPart_13 (tgt := 17) rfl ?_
      exact tm_zret (w := tm_wM ad cI cZ) (u := u) X h (rfl) (⟨(if_neg (fun q => q.elim h1f h9f)).symm, rfl⟩) d_MD_isPart_17
theorem d_MD_isVariable_0 : decode b_MD_isVariable 0 = .ok (.iload_n 0, 1) := by decide +kernel
theorem d_MD_isVariable_1 : decode b_MD_isVariable 1 = .ok (.ifCond .lt 13, 3) := by decide +kernel
theorem d_MD_isVariable_4 : decode b_MD_isVariable 4 = .ok (.iload_n 0, 1) := by decide +kernel
theorem d_MD_isVariable_5 : decode b_MD_isVariable 5 = .ok (.bipush 8, 2) := by decide +kernel
theorem d_MD_isVariable_7 : decode b_MD_isVariable 7 = .ok (.if_icmp .ge 7, 3) := by decide +kernel
theorem d_MD_isVariable_10 : decode b_MD_isVariable 10 = .ok (.iconst 1, 1) := by decide +kernel
theorem d_MD_isVariable_11 : decode b_MD_isVariable 11 = .ok (.goto 4, 3) := by decide +kernel
theorem d_MD_isVariable_14 : decode b_MD_isVariable 14 = .ok (.iconst 0, 1) := by decide +kernel
theorem d_MD_isVariable_15 : decode b_MD_isVariable 15 = .ok (.ireturn, 1) := by decide +kernel
set_option maxHeartbeats 4000000 in
set_option maxRecDepth 100000 in
theorem c_MD_isVariable (l : Launch) (D : va_G) (cI cZ : ClassId) (ad : Nat → Nat) (v : Int32) (u : tm_SC)  : tm_I l y_MD_isVariable b_MD_isVariable 1 .boolean ({ frames := 0, cells := 0, slots := 0, locals := 0 } : Room) D (tm_yM cI cZ) (tm_wM ad cI cZ) [.int (v)] u (fun r u' => r = (ms_vg v) ∧ u' = u) := by
  intro sz
  refine tm_of (Qc := fun A => va_Qi (fun r u' => r = (ms_vg v) ∧ u' = u) (fun u' t => tm_B D (tm_yM cI cZ) A (tm_wM ad cI cZ u') t) A) (by decide) (Nat.le_of_ble_eq_true rfl) ?_ sz
  intro pg eg sg mg bel met cg A ls X h hl hnm
  have hx := X.1.1
  have hb := X.1.2.1
  have hl : lv_has ls 1 [(0, .int (v))] := hl
  refine lv_iload_n hx hb d_MD_isVariable_0 rfl (lv_at hl 0 rfl) ?_
  refine lv_if_lt hx hb d_MD_isVariable_1 (tgt := 14) rfl (fun h1t => ?_) (fun h1f => ?_)
  · refine lv_iconst (v := 0) hx hb d_MD_isVariable_14 (by decide) ?_
    exact tm_zret (w := tm_wM ad cI cZ) (u := u) X h (rfl) (⟨(if_pos (Or.inl h1t)).symm, rfl⟩) d_MD_isVariable_15
  · refine lv_iload_n hx hb d_MD_isVariable_4 rfl (lv_at hl 0 rfl) ?_
    refine lv_bipush (v := 8) hx hb d_MD_isVariable_5 (by decide) ?_
    refine lv_icmp_ge hx hb d_MD_isVariable_7 (tgt := 14) rfl (fun h7t => ?_) (fun h7f => ?_)
    · refine lv_iconst (v := 0) hx hb d_MD_isVariable_14 (by decide) ?_
      exact tm_zret (w := tm_wM ad cI cZ) (u := u) X h (rfl) (⟨(if_pos (Or.inr h7t)).symm, rfl⟩) d_MD_isVariable_15
    · refine lv_iconst (v := 1) hx hb d_MD_isVariable_10 (by decide) ?_
      refine lv_goto hx hb d_MD_isVariable_11 (tgt := 15) rfl ?_
      exact tm_zret (w := tm_wM ad cI cZ) (u := u) X h (rfl) (⟨(if_neg (fun q => q.elim h1f h7f)).symm, rfl⟩) d_MD_isVariable_15
theorem d_MD_highOf_0 : decode b_MD_highOf 0 = .ok (.aload_n 0, 1) := by decide +kernel
theorem d_MD_highOf_1 : decode b_MD_highOf 1 = .ok (.iload_n 1, 1) := by decide +kernel
theorem d_MD_highOf_2 : decode b_MD_highOf 2 = .ok (.invokevirtual 69, 3) := by decide +kernel
theorem d_MD_highOf_5 : decode b_MD_highOf 5 = .ok (.ifCond .eq 12, 3) := by decide +kernel
theorem d_MD_highOf_8 : decode b_MD_highOf 8 = .ok (.aload_n 0, 1) := by decide +kernel
theorem d_MD_highOf_9 : decode b_MD_highOf 9 = .ok (.getfield 25, 3) := by decide +kernel
theorem d_MD_highOf_12 : decode b_MD_highOf 12 = .ok (.iload_n 1, 1) := by decide +kernel
theorem d_MD_highOf_13 : decode b_MD_highOf 13 = .ok (.iaload, 1) := by decide +kernel
theorem d_MD_highOf_14 : decode b_MD_highOf 14 = .ok (.goto 5, 3) := by decide +kernel
theorem d_MD_highOf_17 : decode b_MD_highOf 17 = .ok (.bipush 99, 2) := by decide +kernel
theorem d_MD_highOf_19 : decode b_MD_highOf 19 = .ok (.ireturn, 1) := by decide +kernel
set_option maxHeartbeats 4000000 in
set_option maxRecDepth 100000 in
theorem c_MD_highOf (l : Launch) (D : va_G) (cI cZ : ClassId) (ad : Nat → Nat) (n : Nat) (e : Int32) (u : tm_SC) (hn : u.1 0 = nI n) (hn2 : n ≤ 100) : tm_I l y_MD_highOf b_MD_highOf 2 .int ({ frames := 1, cells := 0, slots := 0, locals := 21 } : Room) D (tm_yM cI cZ) (tm_wM ad cI cZ) [.ref (ad 0), .int (e)] u (fun r u' => r = (ms_hi u e) ∧ u' = u) := by
  intro sz
  refine tm_of (Qc := fun A => va_Qi (fun r u' => r = (ms_hi u e) ∧ u' = u) (fun u' t => tm_B D (tm_yM cI cZ) A (tm_wM ad cI cZ u') t) A) (by decide) (Nat.le_of_ble_eq_true rfl) ?_ sz
  intro pg eg sg mg bel met cg A ls X h hl hnm
  have hx := X.1.1
  have hb := X.1.2.1
  have hl : lv_has ls 2 [(0, .ref (ad 0)), (1, .int (e))] := hl
  refine lv_aload_n hx hb d_MD_highOf_0 rfl (lv_at hl 0 rfl) ?_
  refine lv_iload_n hx hb d_MD_highOf_1 rfl (lv_at hl 1 rfl) ?_
  refine tm_cIf X h (tm_rV (q0 := 0) X h (c_MD_isPart l D cI cZ ad (e) u  _) ki_MD_isPart kw_689 rfl rfl rfl rfl rfl ⟨by decide, by decide⟩ rfl hl.1 rfl (Nat.le_of_ble_eq_true rfl) d_MD_highOf_2 ⟨by decide, by decide⟩) (fun H locs h => ?_)
  refine lv_if_eq hx hb d_MD_highOf_5 (tgt := 17) rfl (fun h5t => ?_) (fun h5f => ?_)
  · refine lv_bipush (v := 99) hx hb d_MD_highOf_17 (by decide) ?_
    exact tm_iret (w := tm_wM ad cI cZ) (u := u) X h (⟨(if_pos (tm_ite0.mp h5t)).symm, rfl⟩) d_MD_highOf_19
  · have q5 : ¬ ms_np u e := fun q => h5f (tm_ite0.mpr q)
    refine lv_aload_n hx hb d_MD_highOf_8 rfl (lv_at hl 0 rfl) ?_
    refine tm_get X h uw_MD 0 rfl rfl 6 (by decide) kw_578 rfl rfl d_MD_highOf_9 ?_
    refine lv_iload_n hx hb d_MD_highOf_12 rfl (lv_at hl 1 rfl) ?_
    refine tm_iald X h 6 0 rfl rfl (e.toNatClampNeg) ((ms_pt1 q5 hn hn2).1) ((ms_pt1 q5 hn hn2).2) (by decide) d_MD_highOf_13 ?_
    refine lv_goto hx hb d_MD_highOf_14 (tgt := 19) rfl ?_
    exact tm_iret (w := tm_wM ad cI cZ) (u := u) X h (⟨(if_neg q5).symm, rfl⟩) d_MD_highOf_19
theorem d_MD_freeOf_0 : decode b_MD_freeOf 0 = .ok (.aload_n 0, 1) := by decide +kernel
theorem d_MD_freeOf_1 : decode b_MD_freeOf 1 = .ok (.iload_n 1, 1) := by decide +kernel
theorem d_MD_freeOf_2 : decode b_MD_freeOf 2 = .ok (.invokevirtual 69, 3) := by decide +kernel
theorem d_MD_freeOf_5 : decode b_MD_freeOf 5 = .ok (.ifCond .eq 12, 3) := by decide +kernel
theorem d_MD_freeOf_8 : decode b_MD_freeOf 8 = .ok (.aload_n 0, 1) := by decide +kernel
theorem d_MD_freeOf_9 : decode b_MD_freeOf 9 = .ok (.getfield 22, 3) := by decide +kernel
theorem d_MD_freeOf_12 : decode b_MD_freeOf 12 = .ok (.iload_n 1, 1) := by decide +kernel
theorem d_MD_freeOf_13 : decode b_MD_freeOf 13 = .ok (.iaload, 1) := by decide +kernel
theorem d_MD_freeOf_14 : decode b_MD_freeOf 14 = .ok (.goto 4, 3) := by decide +kernel
theorem d_MD_freeOf_17 : decode b_MD_freeOf 17 = .ok (.iconst 0, 1) := by decide +kernel
theorem d_MD_freeOf_18 : decode b_MD_freeOf 18 = .ok (.ireturn, 1) := by decide +kernel
set_option maxHeartbeats 4000000 in
set_option maxRecDepth 100000 in
theorem c_MD_freeOf (l : Launch) (D : va_G) (cI cZ : ClassId) (ad : Nat → Nat) (n : Nat) (e : Int32) (u : tm_SC) (hn : u.1 0 = nI n) (hn2 : n ≤ 100) : tm_I l y_MD_freeOf b_MD_freeOf 2 .int ({ frames := 1, cells := 0, slots := 0, locals := 21 } : Room) D (tm_yM cI cZ) (tm_wM ad cI cZ) [.ref (ad 0), .int (e)] u (fun r u' => r = (ms_fr u e) ∧ u' = u) := by
  intro sz
  refine tm_of (Qc := fun A => va_Qi (fun r u' => r = (ms_fr u e) ∧ u' = u) (fun u' t => tm_B D (tm_yM cI cZ) A (tm_wM ad cI cZ u') t) A) (by decide) (Nat.le_of_ble_eq_true rfl) ?_ sz
  intro pg eg sg mg bel met cg A ls X h hl hnm
  have hx := X.1.1
  have hb := X.1.2.1
  have hl : lv_has ls 2 [(0, .ref (ad 0)), (1, .int (e))] := hl
  refine lv_aload_n hx hb d_MD_freeOf_0 rfl (lv_at hl 0 rfl) ?_
  refine lv_iload_n hx hb d_MD_freeOf_1 rfl (lv_at hl 1 rfl) ?_
  refine tm_cIf X h (tm_rV (q0 := 0) X h (c_MD_isPart l D cI cZ ad (e) u  _) ki_MD_isPart kw_689 rfl rfl rfl rfl rfl ⟨by decide, by decide⟩ rfl hl.1 rfl (Nat.le_of_ble_eq_true rfl) d_MD_freeOf_2 ⟨by decide, by decide⟩) (fun H locs h => ?_)
  refine lv_if_eq hx hb d_MD_freeOf_5 (tgt := 17) rfl (fun h5t => ?_) (fun h5f => ?_)
  · refine lv_iconst (v := 0) hx hb d_MD_freeOf_17 (by decide) ?_
    exact tm_iret (w := tm_wM ad cI cZ) (u := u) X h (⟨(if_pos (tm_ite0.mp h5t)).symm, rfl⟩) d_MD_freeOf_18
  · have q5 : ¬ ms_np u e := fun q => h5f (tm_ite0.mpr q)
    refine lv_aload_n hx hb d_MD_freeOf_8 rfl (lv_at hl 0 rfl) ?_
    refine tm_get X h uw_MD 0 rfl rfl 5 (by decide) kw_577 rfl rfl d_MD_freeOf_9 ?_
    refine lv_iload_n hx hb d_MD_freeOf_12 rfl (lv_at hl 1 rfl) ?_
    refine tm_iald X h 5 0 rfl rfl (e.toNatClampNeg) ((ms_pt1 q5 hn hn2).1) ((ms_pt1 q5 hn hn2).2) (by decide) d_MD_freeOf_13 ?_
    refine lv_goto hx hb d_MD_freeOf_14 (tgt := 18) rfl ?_
    exact tm_iret (w := tm_wM ad cI cZ) (u := u) X h (⟨(if_neg q5).symm, rfl⟩) d_MD_freeOf_18
theorem d_MD_greatest_0 : decode b_MD_greatest 0 = .ok (.iload_n 0, 1) := by decide +kernel
theorem d_MD_greatest_1 : decode b_MD_greatest 1 = .ok (.iload_n 1, 1) := by decide +kernel
theorem d_MD_greatest_2 : decode b_MD_greatest 2 = .ok (.if_icmp .le 7, 3) := by decide +kernel
theorem d_MD_greatest_5 : decode b_MD_greatest 5 = .ok (.iload_n 0, 1) := by decide +kernel
theorem d_MD_greatest_6 : decode b_MD_greatest 6 = .ok (.goto 4, 3) := by decide +kernel
theorem d_MD_greatest_9 : decode b_MD_greatest 9 = .ok (.iload_n 1, 1) := by decide +kernel
theorem d_MD_greatest_10 : decode b_MD_greatest 10 = .ok (.ireturn, 1) := by decide +kernel
set_option maxHeartbeats 4000000 in
set_option maxRecDepth 100000 in
theorem c_MD_greatest (l : Launch) (D : va_G) (cI cZ : ClassId) (ad : Nat → Nat) (a : Int32) (b : Int32) (u : tm_SC)  : tm_I l y_MD_greatest b_MD_greatest 2 .int ({ frames := 0, cells := 0, slots := 0, locals := 0 } : Room) D (tm_yM cI cZ) (tm_wM ad cI cZ) [.int (a), .int (b)] u (fun r u' => r = (ms_gr a b) ∧ u' = u) := by
  intro sz
  refine tm_of (Qc := fun A => va_Qi (fun r u' => r = (ms_gr a b) ∧ u' = u) (fun u' t => tm_B D (tm_yM cI cZ) A (tm_wM ad cI cZ u') t) A) (by decide) (Nat.le_of_ble_eq_true rfl) ?_ sz
  intro pg eg sg mg bel met cg A ls X h hl hnm
  have hx := X.1.1
  have hb := X.1.2.1
  have hl : lv_has ls 2 [(0, .int (a)), (1, .int (b))] := hl
  refine lv_iload_n hx hb d_MD_greatest_0 rfl (lv_at hl 0 rfl) ?_
  refine lv_iload_n hx hb d_MD_greatest_1 rfl (lv_at hl 1 rfl) ?_
  refine lv_icmp_le hx hb d_MD_greatest_2 (tgt := 9) rfl (fun h2t => ?_) (fun h2f => ?_)
  · refine lv_iload_n hx hb d_MD_greatest_9 rfl (lv_at hl 1 rfl) ?_
    exact tm_iret (w := tm_wM ad cI cZ) (u := u) X h (⟨(if_pos h2t).symm, rfl⟩) d_MD_greatest_10
  · refine lv_iload_n hx hb d_MD_greatest_5 rfl (lv_at hl 0 rfl) ?_
    refine lv_goto hx hb d_MD_greatest_6 (tgt := 10) rfl ?_
    exact tm_iret (w := tm_wM ad cI cZ) (u := u) X h (⟨(if_neg h2f).symm, rfl⟩) d_MD_greatest_10
theorem d_MD_make_0 : decode b_MD_make 0 = .ok (.aload_n 0, 1) := by decide +kernel
theorem d_MD_make_1 : decode b_MD_make 1 = .ok (.iload_n 1, 1) := by decide +kernel
theorem d_MD_make_2 : decode b_MD_make 2 = .ok (.ifCond .eq 10, 3) := by decide +kernel
theorem d_MD_make_5 : decode b_MD_make 5 = .ok (.iload 7, 2) := by decide +kernel
theorem d_MD_make_7 : decode b_MD_make 7 = .ok (.bipush 10, 2) := by decide +kernel
theorem d_MD_make_9 : decode b_MD_make 9 = .ok (.if_icmp .le 7, 3) := by decide +kernel
theorem d_MD_make_12 : decode b_MD_make 12 = .ok (.iconst 1, 1) := by decide +kernel
theorem d_MD_make_13 : decode b_MD_make 13 = .ok (.goto 17, 3) := by decide +kernel
theorem d_MD_make_16 : decode b_MD_make 16 = .ok (.aload_n 0, 1) := by decide +kernel
theorem d_MD_make_17 : decode b_MD_make 17 = .ok (.getfield 66, 3) := by decide +kernel
theorem d_MD_make_20 : decode b_MD_make 20 = .ok (.bipush 100, 2) := by decide +kernel
theorem d_MD_make_22 : decode b_MD_make 22 = .ok (.if_icmp .ne 7, 3) := by decide +kernel
theorem d_MD_make_25 : decode b_MD_make 25 = .ok (.iconst 2, 1) := by decide +kernel
theorem d_MD_make_26 : decode b_MD_make 26 = .ok (.goto 4, 3) := by decide +kernel
theorem d_MD_make_29 : decode b_MD_make 29 = .ok (.iconst 0, 1) := by decide +kernel
theorem d_MD_make_30 : decode b_MD_make 30 = .ok (.putfield 62, 3) := by decide +kernel
theorem d_MD_make_33 : decode b_MD_make 33 = .ok (.aload_n 0, 1) := by decide +kernel
theorem d_MD_make_34 : decode b_MD_make 34 = .ok (.getfield 62, 3) := by decide +kernel
theorem d_MD_make_37 : decode b_MD_make 37 = .ok (.ifCond .eq 5, 3) := by decide +kernel
theorem d_MD_make_40 : decode b_MD_make 40 = .ok (.iconst 0, 1) := by decide +kernel
theorem d_MD_make_41 : decode b_MD_make 41 = .ok (.ireturn, 1) := by decide +kernel
theorem d_MD_make_42 : decode b_MD_make 42 = .ok (.aload_n 0, 1) := by decide +kernel
theorem d_MD_make_43 : decode b_MD_make 43 = .ok (.getfield 7, 3) := by decide +kernel
theorem d_MD_make_46 : decode b_MD_make 46 = .ok (.aload_n 0, 1) := by decide +kernel
theorem d_MD_make_47 : decode b_MD_make 47 = .ok (.getfield 66, 3) := by decide +kernel
theorem d_MD_make_50 : decode b_MD_make 50 = .ok (.iload_n 2, 1) := by decide +kernel
theorem d_MD_make_51 : decode b_MD_make 51 = .ok (.iastore, 1) := by decide +kernel
theorem d_MD_make_52 : decode b_MD_make 52 = .ok (.aload_n 0, 1) := by decide +kernel
theorem d_MD_make_53 : decode b_MD_make 53 = .ok (.getfield 13, 3) := by decide +kernel
theorem d_MD_make_56 : decode b_MD_make 56 = .ok (.aload_n 0, 1) := by decide +kernel
theorem d_MD_make_57 : decode b_MD_make 57 = .ok (.getfield 66, 3) := by decide +kernel
theorem d_MD_make_60 : decode b_MD_make 60 = .ok (.iload_n 3, 1) := by decide +kernel
theorem d_MD_make_61 : decode b_MD_make 61 = .ok (.iastore, 1) := by decide +kernel
theorem d_MD_make_62 : decode b_MD_make 62 = .ok (.aload_n 0, 1) := by decide +kernel
theorem d_MD_make_63 : decode b_MD_make 63 = .ok (.getfield 16, 3) := by decide +kernel
theorem d_MD_make_66 : decode b_MD_make 66 = .ok (.aload_n 0, 1) := by decide +kernel
theorem d_MD_make_67 : decode b_MD_make 67 = .ok (.getfield 66, 3) := by decide +kernel
theorem d_MD_make_70 : decode b_MD_make 70 = .ok (.iload 4, 2) := by decide +kernel
theorem d_MD_make_72 : decode b_MD_make 72 = .ok (.iastore, 1) := by decide +kernel
theorem d_MD_make_73 : decode b_MD_make 73 = .ok (.aload_n 0, 1) := by decide +kernel
theorem d_MD_make_74 : decode b_MD_make 74 = .ok (.getfield 19, 3) := by decide +kernel
theorem d_MD_make_77 : decode b_MD_make 77 = .ok (.aload_n 0, 1) := by decide +kernel
theorem d_MD_make_78 : decode b_MD_make 78 = .ok (.getfield 66, 3) := by decide +kernel
theorem d_MD_make_81 : decode b_MD_make 81 = .ok (.iload 5, 2) := by decide +kernel
theorem d_MD_make_83 : decode b_MD_make 83 = .ok (.iastore, 1) := by decide +kernel
theorem d_MD_make_84 : decode b_MD_make 84 = .ok (.aload_n 0, 1) := by decide +kernel
theorem d_MD_make_85 : decode b_MD_make 85 = .ok (.getfield 22, 3) := by decide +kernel
theorem d_MD_make_88 : decode b_MD_make 88 = .ok (.aload_n 0, 1) := by decide +kernel
theorem d_MD_make_89 : decode b_MD_make 89 = .ok (.getfield 66, 3) := by decide +kernel
theorem d_MD_make_92 : decode b_MD_make 92 = .ok (.iload 6, 2) := by decide +kernel
theorem d_MD_make_94 : decode b_MD_make 94 = .ok (.iastore, 1) := by decide +kernel
theorem d_MD_make_95 : decode b_MD_make 95 = .ok (.aload_n 0, 1) := by decide +kernel
theorem d_MD_make_96 : decode b_MD_make 96 = .ok (.getfield 25, 3) := by decide +kernel
theorem d_MD_make_99 : decode b_MD_make 99 = .ok (.aload_n 0, 1) := by decide +kernel
theorem d_MD_make_100 : decode b_MD_make 100 = .ok (.getfield 66, 3) := by decide +kernel
theorem d_MD_make_103 : decode b_MD_make 103 = .ok (.iload 7, 2) := by decide +kernel
theorem d_MD_make_105 : decode b_MD_make 105 = .ok (.iastore, 1) := by decide +kernel
theorem d_MD_make_106 : decode b_MD_make 106 = .ok (.aload_n 0, 1) := by decide +kernel
theorem d_MD_make_107 : decode b_MD_make 107 = .ok (.dup, 1) := by decide +kernel
theorem d_MD_make_108 : decode b_MD_make 108 = .ok (.getfield 66, 3) := by decide +kernel
theorem d_MD_make_111 : decode b_MD_make 111 = .ok (.iconst 1, 1) := by decide +kernel
theorem d_MD_make_112 : decode b_MD_make 112 = .ok (.iadd, 1) := by decide +kernel
theorem d_MD_make_113 : decode b_MD_make 113 = .ok (.putfield 66, 3) := by decide +kernel
theorem d_MD_make_116 : decode b_MD_make 116 = .ok (.aload_n 0, 1) := by decide +kernel
theorem d_MD_make_117 : decode b_MD_make 117 = .ok (.getfield 66, 3) := by decide +kernel
theorem d_MD_make_120 : decode b_MD_make 120 = .ok (.iconst 1, 1) := by decide +kernel
theorem d_MD_make_121 : decode b_MD_make 121 = .ok (.isub, 1) := by decide +kernel
theorem d_MD_make_122 : decode b_MD_make 122 = .ok (.ireturn, 1) := by decide +kernel
set_option maxHeartbeats 4000000 in
set_option maxRecDepth 100000 in
theorem c_MD_make (l : Launch) (D : va_G) (cI cZ : ClassId) (ad : Nat → Nat) (n : Nat) (g : Int32) (k : Int32) (a : Int32) (b : Int32) (c : Int32) (f : Int32) (hh : Int32) (u : tm_SC) (hn : u.1 0 = nI n) (hn2 : n ≤ 100) : tm_I l y_MD_make b_MD_make 8 .int ({ frames := 0, cells := 0, slots := 0, locals := 0 } : Room) D (tm_yM cI cZ) (tm_wM ad cI cZ) [.ref (ad 0), .int (g), .int (k), .int (a), .int (b), .int (c), .int (f), .int (hh)] u (fun r u' => r = (ms_mkR n g hh) ∧ u' = (ms_mkU u n g k a b c f hh)) := by
  intro sz
  refine tm_of (Qc := fun A => va_Qi (fun r u' => r = (ms_mkR n g hh) ∧ u' = (ms_mkU u n g k a b c f hh)) (fun u' t => tm_B D (tm_yM cI cZ) A (tm_wM ad cI cZ u') t) A) (by decide) (Nat.le_of_ble_eq_true rfl) ?_ sz
  intro pg eg sg mg bel met cg A ls X h hl hnm
  have hx := X.1.1
  have hb := X.1.2.1
  have hl : lv_has ls 8 [(0, .ref (ad 0)), (1, .int (g)), (2, .int (k)), (3, .int (a)), (4, .int (b)), (5, .int (c)), (6, .int (f)), (7, .int (hh))] := hl
  refine lv_aload_n hx hb d_MD_make_0 rfl (lv_at hl 0 rfl) ?_
  refine lv_iload_n hx hb d_MD_make_1 rfl (lv_at hl 1 rfl) ?_
  refine lv_if_eq hx hb d_MD_make_2 (tgt := 12) rfl (fun h2t => ?_) (fun h2f => ?_)
  · refine lv_iconst (v := 1) hx hb d_MD_make_12 (by decide) ?_
    refine lv_goto hx hb d_MD_make_13 (tgt := 30) rfl ?_
    refine tm_put X h uw_MD t_MD t_MD_ok n_MD 0 rfl rfl 30 (by decide) kw_602 rfl rfl (rfl) (rfl) (Nat.le_of_ble_eq_true rfl) (ws' := tm_wM ad cI cZ (tm_sf u 13 (1))) rfl d_MD_make_30 (fun H locs h => ?_)
    refine lv_aload_n hx hb d_MD_make_33 rfl (lv_at hl 0 rfl) ?_
    refine tm_get X h uw_MD 0 rfl rfl 30 (by decide) kw_602 rfl rfl d_MD_make_34 ?_
    refine lv_if_eq hx hb d_MD_make_37 (tgt := 42) rfl (fun q => absurd q ((fun z => absurd (show (1 : Int32) = 0 from z) (by decide)))) (fun _ => ?_)
    refine lv_iconst (v := 0) hx hb d_MD_make_40 (by decide) ?_
    exact tm_iret (w := tm_wM ad cI cZ) (u := (tm_sf u 13 (1))) X h (ms_no (if_pos (Or.inl h2t)) (by decide) rfl rfl) d_MD_make_41
  · refine lv_iload hx hb d_MD_make_5 (lv_at hl 7 rfl) ?_
    refine lv_bipush (v := 10) hx hb d_MD_make_7 (by decide) ?_
    refine lv_icmp_le hx hb d_MD_make_9 (tgt := 16) rfl (fun h9t => ?_) (fun h9f => ?_)
    · refine lv_aload_n hx hb d_MD_make_16 rfl (lv_at hl 0 rfl) ?_
      refine tm_get X h uw_MD 0 rfl rfl 0 (by decide) kw_572 rfl rfl d_MD_make_17 ?_
      refine lv_bipush (v := 100) hx hb d_MD_make_20 (by decide) ?_
      refine lv_icmp_ne hx hb d_MD_make_22 (tgt := 29) rfl (fun h22t => ?_) (fun h22f => ?_)
      · refine lv_iconst (v := 0) hx hb d_MD_make_29 (by decide) ?_
        refine tm_put X h uw_MD t_MD t_MD_ok n_MD 0 rfl rfl 30 (by decide) kw_602 rfl rfl (rfl) (rfl) (Nat.le_of_ble_eq_true rfl) (ws' := tm_wM ad cI cZ (tm_sf u 13 (0))) rfl d_MD_make_30 (fun H locs h => ?_)
        refine lv_aload_n hx hb d_MD_make_33 rfl (lv_at hl 0 rfl) ?_
        refine tm_get X h uw_MD 0 rfl rfl 30 (by decide) kw_602 rfl rfl d_MD_make_34 ?_
        refine lv_if_eq hx hb d_MD_make_37 (tgt := 42) rfl (fun _ => ?_) (fun q => absurd (rfl) q)
        have hn3 : n < 100 := by have : n ≠ 100 := fun q => h22t (by rw [hn, q]; rfl); omega
        refine lv_aload_n hx hb d_MD_make_42 rfl (lv_at hl 0 rfl) ?_
        refine tm_get X h uw_MD 0 rfl rfl 1 (by decide) kw_573 rfl rfl d_MD_make_43 ?_
        refine lv_aload_n hx hb d_MD_make_46 rfl (lv_at hl 0 rfl) ?_
        refine tm_get X h uw_MD 0 rfl rfl 0 (by decide) kw_572 rfl rfl d_MD_make_47 ?_
        refine lv_iload_n hx hb d_MD_make_50 rfl (lv_at hl 2 rfl) ?_
        refine tm_iast X h 1 0 rfl rfl (n) (hn3) (hn) (by decide) (ws' := tm_wM ad cI cZ (tm_sa (tm_sf u 13 (0)) 0 (n) (k))) rfl d_MD_make_51 (fun H locs h => ?_)
        refine lv_aload_n hx hb d_MD_make_52 rfl (lv_at hl 0 rfl) ?_
        refine tm_get X h uw_MD 0 rfl rfl 2 (by decide) kw_574 rfl rfl d_MD_make_53 ?_
        refine lv_aload_n hx hb d_MD_make_56 rfl (lv_at hl 0 rfl) ?_
        refine tm_get X h uw_MD 0 rfl rfl 0 (by decide) kw_572 rfl rfl d_MD_make_57 ?_
        refine lv_iload_n hx hb d_MD_make_60 rfl (lv_at hl 3 rfl) ?_
        refine tm_iast X h 2 0 rfl rfl (n) (hn3) (hn) (by decide) (ws' := tm_wM ad cI cZ (tm_sa (tm_sa (tm_sf u 13 (0)) 0 (n) (k)) 1 (n) (a))) rfl d_MD_make_61 (fun H locs h => ?_)
        refine lv_aload_n hx hb d_MD_make_62 rfl (lv_at hl 0 rfl) ?_
        refine tm_get X h uw_MD 0 rfl rfl 3 (by decide) kw_575 rfl rfl d_MD_make_63 ?_
        refine lv_aload_n hx hb d_MD_make_66 rfl (lv_at hl 0 rfl) ?_
        refine tm_get X h uw_MD 0 rfl rfl 0 (by decide) kw_572 rfl rfl d_MD_make_67 ?_
        refine lv_iload hx hb d_MD_make_70 (lv_at hl 4 rfl) ?_
        refine tm_iast X h 3 0 rfl rfl (n) (hn3) (hn) (by decide) (ws' := tm_wM ad cI cZ (tm_sa (tm_sa (tm_sa (tm_sf u 13 (0)) 0 (n) (k)) 1 (n) (a)) 2 (n) (b))) rfl d_MD_make_72 (fun H locs h => ?_)
        refine lv_aload_n hx hb d_MD_make_73 rfl (lv_at hl 0 rfl) ?_
        refine tm_get X h uw_MD 0 rfl rfl 4 (by decide) kw_576 rfl rfl d_MD_make_74 ?_
        refine lv_aload_n hx hb d_MD_make_77 rfl (lv_at hl 0 rfl) ?_
        refine tm_get X h uw_MD 0 rfl rfl 0 (by decide) kw_572 rfl rfl d_MD_make_78 ?_
        refine lv_iload hx hb d_MD_make_81 (lv_at hl 5 rfl) ?_
        refine tm_iast X h 4 0 rfl rfl (n) (hn3) (hn) (by decide) (ws' := tm_wM ad cI cZ (tm_sa (tm_sa (tm_sa (tm_sa (tm_sf u 13 (0)) 0 (n) (k)) 1 (n) (a)) 2 (n) (b)) 3 (n) (c))) rfl d_MD_make_83 (fun H locs h => ?_)
        refine lv_aload_n hx hb d_MD_make_84 rfl (lv_at hl 0 rfl) ?_
        refine tm_get X h uw_MD 0 rfl rfl 5 (by decide) kw_577 rfl rfl d_MD_make_85 ?_
        refine lv_aload_n hx hb d_MD_make_88 rfl (lv_at hl 0 rfl) ?_
        refine tm_get X h uw_MD 0 rfl rfl 0 (by decide) kw_572 rfl rfl d_MD_make_89 ?_
        refine lv_iload hx hb d_MD_make_92 (lv_at hl 6 rfl) ?_
        refine tm_iast X h 5 0 rfl rfl (n) (hn3) (hn) (by decide) (ws' := tm_wM ad cI cZ (tm_sa (tm_sa (tm_sa (tm_sa (tm_sa (tm_sf u 13 (0)) 0 (n) (k)) 1 (n) (a)) 2 (n) (b)) 3 (n) (c)) 4 (n) (f))) rfl d_MD_make_94 (fun H locs h => ?_)
        refine lv_aload_n hx hb d_MD_make_95 rfl (lv_at hl 0 rfl) ?_
        refine tm_get X h uw_MD 0 rfl rfl 6 (by decide) kw_578 rfl rfl d_MD_make_96 ?_
        refine lv_aload_n hx hb d_MD_make_99 rfl (lv_at hl 0 rfl) ?_
        refine tm_get X h uw_MD 0 rfl rfl 0 (by decide) kw_572 rfl rfl d_MD_make_100 ?_
        refine lv_iload hx hb d_MD_make_103 (lv_at hl 7 rfl) ?_
        refine tm_iast X h 6 0 rfl rfl (n) (hn3) (hn) (by decide) (ws' := tm_wM ad cI cZ (tm_sa (tm_sa (tm_sa (tm_sa (tm_sa (tm_sa (tm_sf u 13 (0)) 0 (n) (k)) 1 (n) (a)) 2 (n) (b)) 3 (n) (c)) 4 (n) (f)) 5 (n) (hh))) rfl d_MD_make_105 (fun H locs h => ?_)
        refine lv_aload_n hx hb d_MD_make_106 rfl (lv_at hl 0 rfl) ?_
        refine lv_dup hx hb d_MD_make_107 rfl ?_
        refine tm_get X h uw_MD 0 rfl rfl 0 (by decide) kw_572 rfl rfl d_MD_make_108 ?_
        refine lv_iconst (v := 1) hx hb d_MD_make_111 (by decide) ?_
        refine lv_iadd hx hb d_MD_make_112 ?_
        refine tm_top (y := nI (n + 1)) (by show u.1 0 + 1 = _; rw [hn, nI_1]) ?_
        refine tm_put X h uw_MD t_MD t_MD_ok n_MD 0 rfl rfl 0 (by decide) kw_572 rfl rfl (rfl) (rfl) (Nat.le_of_ble_eq_true rfl) (ws' := tm_wM ad cI cZ (tm_sf (tm_sa (tm_sa (tm_sa (tm_sa (tm_sa (tm_sa (tm_sf u 13 (0)) 0 (n) (k)) 1 (n) (a)) 2 (n) (b)) 3 (n) (c)) 4 (n) (f)) 5 (n) (hh)) 0 (nI (n + 1)))) rfl d_MD_make_113 (fun H locs h => ?_)
        refine lv_aload_n hx hb d_MD_make_116 rfl (lv_at hl 0 rfl) ?_
        refine tm_get X h uw_MD 0 rfl rfl 0 (by decide) kw_572 rfl rfl d_MD_make_117 ?_
        refine lv_iconst (v := 1) hx hb d_MD_make_120 (by decide) ?_
        refine lv_isub hx hb d_MD_make_121 ?_
        refine tm_top (y := nI n) (nI_pred n) ?_
        exact tm_iret (w := tm_wM ad cI cZ) (u := (tm_sf (tm_sa (tm_sa (tm_sa (tm_sa (tm_sa (tm_sa (tm_sf u 13 (0)) 0 (n) (k)) 1 (n) (a)) 2 (n) (b)) 3 (n) (c)) 4 (n) (f)) 5 (n) (hh)) 0 (nI (n + 1)))) X h (ms_yes ((if_neg (fun q => q.elim h2f (Int32.not_lt.mpr h9t))).trans (if_neg (by omega))) rfl rfl) d_MD_make_122
      · refine lv_iconst (v := 2) hx hb d_MD_make_25 (by decide) ?_
        refine lv_goto hx hb d_MD_make_26 (tgt := 30) rfl ?_
        refine tm_put X h uw_MD t_MD t_MD_ok n_MD 0 rfl rfl 30 (by decide) kw_602 rfl rfl (rfl) (rfl) (Nat.le_of_ble_eq_true rfl) (ws' := tm_wM ad cI cZ (tm_sf u 13 (2))) rfl d_MD_make_30 (fun H locs h => ?_)
        refine lv_aload_n hx hb d_MD_make_33 rfl (lv_at hl 0 rfl) ?_
        refine tm_get X h uw_MD 0 rfl rfl 30 (by decide) kw_602 rfl rfl d_MD_make_34 ?_
        refine lv_if_eq hx hb d_MD_make_37 (tgt := 42) rfl (fun q => absurd q ((fun z => absurd (show (2 : Int32) = 0 from z) (by decide)))) (fun _ => ?_)
        refine lv_iconst (v := 0) hx hb d_MD_make_40 (by decide) ?_
        exact tm_iret (w := tm_wM ad cI cZ) (u := (tm_sf u 13 (2))) X h (ms_no ((if_neg (fun q => q.elim h2f (Int32.not_lt.mpr h9t))).trans (if_pos ((nI_eq (by omega) (by decide)).mp (hn.symm.trans h22f)))) (by decide) rfl rfl) d_MD_make_41
    · refine lv_iconst (v := 1) hx hb d_MD_make_12 (by decide) ?_
      refine lv_goto hx hb d_MD_make_13 (tgt := 30) rfl ?_
      refine tm_put X h uw_MD t_MD t_MD_ok n_MD 0 rfl rfl 30 (by decide) kw_602 rfl rfl (rfl) (rfl) (Nat.le_of_ble_eq_true rfl) (ws' := tm_wM ad cI cZ (tm_sf u 13 (1))) rfl d_MD_make_30 (fun H locs h => ?_)
      refine lv_aload_n hx hb d_MD_make_33 rfl (lv_at hl 0 rfl) ?_
      refine tm_get X h uw_MD 0 rfl rfl 30 (by decide) kw_602 rfl rfl d_MD_make_34 ?_
      refine lv_if_eq hx hb d_MD_make_37 (tgt := 42) rfl (fun q => absurd q ((fun z => absurd (show (1 : Int32) = 0 from z) (by decide)))) (fun _ => ?_)
      refine lv_iconst (v := 0) hx hb d_MD_make_40 (by decide) ?_
      exact tm_iret (w := tm_wM ad cI cZ) (u := (tm_sf u 13 (1))) X h (ms_no (if_pos (Or.inr (Int32.not_le.mp h9f))) (by decide) rfl rfl) d_MD_make_41
theorem d_MD_number_0 : decode b_MD_number 0 = .ok (.aload_n 0, 1) := by decide +kernel
theorem d_MD_number_1 : decode b_MD_number 1 = .ok (.iconst 1, 1) := by decide +kernel
theorem d_MD_number_2 : decode b_MD_number 2 = .ok (.iconst 0, 1) := by decide +kernel
theorem d_MD_number_3 : decode b_MD_number 3 = .ok (.iload_n 1, 1) := by decide +kernel
theorem d_MD_number_4 : decode b_MD_number 4 = .ok (.iconst 0, 1) := by decide +kernel
theorem d_MD_number_5 : decode b_MD_number 5 = .ok (.iconst 0, 1) := by decide +kernel
theorem d_MD_number_6 : decode b_MD_number 6 = .ok (.iconst 0, 1) := by decide +kernel
theorem d_MD_number_7 : decode b_MD_number 7 = .ok (.iconst 0, 1) := by decide +kernel
theorem d_MD_number_8 : decode b_MD_number 8 = .ok (.invokevirtual 73, 3) := by decide +kernel
theorem d_MD_number_11 : decode b_MD_number 11 = .ok (.istore_n 2, 1) := by decide +kernel
theorem d_MD_number_12 : decode b_MD_number 12 = .ok (.aload_n 0, 1) := by decide +kernel
theorem d_MD_number_13 : decode b_MD_number 13 = .ok (.aload_n 0, 1) := by decide +kernel
theorem d_MD_number_14 : decode b_MD_number 14 = .ok (.getfield 62, 3) := by decide +kernel
theorem d_MD_number_17 : decode b_MD_number 17 = .ok (.iconst 2, 1) := by decide +kernel
theorem d_MD_number_18 : decode b_MD_number 18 = .ok (.if_icmp .ne 7, 3) := by decide +kernel
theorem d_MD_number_21 : decode b_MD_number 21 = .ok (.iconst 1, 1) := by decide +kernel
theorem d_MD_number_22 : decode b_MD_number 22 = .ok (.goto 4, 3) := by decide +kernel
theorem d_MD_number_25 : decode b_MD_number 25 = .ok (.iconst 0, 1) := by decide +kernel
theorem d_MD_number_26 : decode b_MD_number 26 = .ok (.putfield 62, 3) := by decide +kernel
theorem d_MD_number_29 : decode b_MD_number 29 = .ok (.iload_n 2, 1) := by decide +kernel
theorem d_MD_number_30 : decode b_MD_number 30 = .ok (.ireturn, 1) := by decide +kernel
set_option maxHeartbeats 4000000 in
set_option maxRecDepth 100000 in
theorem c_MD_number (l : Launch) (D : va_G) (cI cZ : ClassId) (ad : Nat → Nat) (n : Nat) (x : Int32) (u : tm_SC) (hn : u.1 0 = nI n) (hn2 : n ≤ 100) : tm_I l y_MD_number b_MD_number 3 .int ({ frames := 1, cells := 0, slots := 0, locals := 27 } : Room) D (tm_yM cI cZ) (tm_wM ad cI cZ) [.ref (ad 0), .int (x)] u (fun r u' => r = (ms_mkR n 1 0) ∧ u' = (ms_numU u n x)) := by
  intro sz
  refine tm_of (Qc := fun A => va_Qi (fun r u' => r = (ms_mkR n 1 0) ∧ u' = (ms_numU u n x)) (fun u' t => tm_B D (tm_yM cI cZ) A (tm_wM ad cI cZ u') t) A) (by decide) (Nat.le_of_ble_eq_true rfl) ?_ sz
  intro pg eg sg mg bel met cg A ls X h hl hnm
  have hx := X.1.1
  have hb := X.1.2.1
  have hl : lv_has ls 3 [(0, .ref (ad 0)), (1, .int (x))] := hl
  refine lv_aload_n hx hb d_MD_number_0 rfl (lv_at hl 0 rfl) ?_
  refine lv_iconst (v := 1) hx hb d_MD_number_1 (by decide) ?_
  refine lv_iconst (v := 0) hx hb d_MD_number_2 (by decide) ?_
  refine lv_iload_n hx hb d_MD_number_3 rfl (lv_at hl 1 rfl) ?_
  refine lv_iconst (v := 0) hx hb d_MD_number_4 (by decide) ?_
  refine lv_iconst (v := 0) hx hb d_MD_number_5 (by decide) ?_
  refine lv_iconst (v := 0) hx hb d_MD_number_6 (by decide) ?_
  refine lv_iconst (v := 0) hx hb d_MD_number_7 (by decide) ?_
  refine tm_cIf X h (tm_rV (q0 := 0) X h (c_MD_make l D cI cZ ad (n) (1) (0) (x) (0) (0) (0) (0) u (hn) (hn2) _) ki_MD_make kw_674 rfl rfl rfl rfl rfl ⟨by decide, by decide⟩ rfl hl.1 rfl (Nat.le_of_ble_eq_true rfl) d_MD_number_8 ⟨by decide, by decide⟩) (fun H locs h => ?_)
  refine lv_istore_n hx hb d_MD_number_11 rfl hl (by decide) rfl (fun ls (hl : lv_has ls 3 [(2, .int ((ms_mkR (n) (1) (0)))), (0, .ref (ad 0)), (1, .int (x))]) => ?_)
  refine lv_aload_n hx hb d_MD_number_12 rfl (lv_at hl 1 rfl) ?_
  refine lv_aload_n hx hb d_MD_number_13 rfl (lv_at hl 1 rfl) ?_
  refine tm_get X h uw_MD 0 rfl rfl 30 (by decide) kw_602 rfl rfl d_MD_number_14 ?_
  refine lv_iconst (v := 2) hx hb d_MD_number_17 (by decide) ?_
  refine lv_icmp_ne hx hb d_MD_number_18 (tgt := 25) rfl (fun h18t => ?_) (fun h18f => ?_)
  · refine lv_iconst (v := 0) hx hb d_MD_number_25 (by decide) ?_
    refine tm_put X h uw_MD t_MD t_MD_ok n_MD 0 rfl rfl 30 (by decide) kw_602 rfl rfl (rfl) (rfl) (Nat.le_of_ble_eq_true rfl) (ws' := tm_wM ad cI cZ (tm_sf (ms_mkU u (n) (1) (0) (x) (0) (0) (0) (0)) 13 (0))) rfl d_MD_number_26 (fun H locs h => ?_)
    refine lv_iload_n hx hb d_MD_number_29 rfl (lv_at hl 0 rfl) ?_
    exact tm_iret (w := tm_wM ad cI cZ) (u := (tm_sf (ms_mkU u (n) (1) (0) (x) (0) (0) (0) (0)) 13 (0))) X h (⟨rfl, congrArg (tm_sf _ 13) (if_neg h18t).symm⟩) d_MD_number_30
  · refine lv_iconst (v := 1) hx hb d_MD_number_21 (by decide) ?_
    refine lv_goto hx hb d_MD_number_22 (tgt := 26) rfl ?_
    refine tm_put X h uw_MD t_MD t_MD_ok n_MD 0 rfl rfl 30 (by decide) kw_602 rfl rfl (rfl) (rfl) (Nat.le_of_ble_eq_true rfl) (ws' := tm_wM ad cI cZ (tm_sf (ms_mkU u (n) (1) (0) (x) (0) (0) (0) (0)) 13 (1))) rfl d_MD_number_26 (fun H locs h => ?_)
    refine lv_iload_n hx hb d_MD_number_29 rfl (lv_at hl 0 rfl) ?_
    exact tm_iret (w := tm_wM ad cI cZ) (u := (tm_sf (ms_mkU u (n) (1) (0) (x) (0) (0) (0) (0)) 13 (1))) X h (⟨rfl, congrArg (tm_sf _ 13) (if_pos h18f).symm⟩) d_MD_number_30
theorem d_MD_variable_0 : decode b_MD_variable 0 = .ok (.aload_n 0, 1) := by decide +kernel
theorem d_MD_variable_1 : decode b_MD_variable 1 = .ok (.iload_n 1, 1) := by decide +kernel
theorem d_MD_variable_2 : decode b_MD_variable 2 = .ok (.invokestatic 77, 3) := by decide +kernel
theorem d_MD_variable_5 : decode b_MD_variable 5 = .ok (.iconst 1, 1) := by decide +kernel
theorem d_MD_variable_6 : decode b_MD_variable 6 = .ok (.iload_n 1, 1) := by decide +kernel
theorem d_MD_variable_7 : decode b_MD_variable 7 = .ok (.iconst 0, 1) := by decide +kernel
theorem d_MD_variable_8 : decode b_MD_variable 8 = .ok (.iconst 0, 1) := by decide +kernel
theorem d_MD_variable_9 : decode b_MD_variable 9 = .ok (.iload_n 1, 1) := by decide +kernel
theorem d_MD_variable_10 : decode b_MD_variable 10 = .ok (.invokestatic 77, 3) := by decide +kernel
theorem d_MD_variable_13 : decode b_MD_variable 13 = .ok (.ifCond .eq 9, 3) := by decide +kernel
theorem d_MD_variable_16 : decode b_MD_variable 16 = .ok (.iconst 1, 1) := by decide +kernel
theorem d_MD_variable_17 : decode b_MD_variable 17 = .ok (.iload_n 1, 1) := by decide +kernel
theorem d_MD_variable_18 : decode b_MD_variable 18 = .ok (.ishl, 1) := by decide +kernel
theorem d_MD_variable_19 : decode b_MD_variable 19 = .ok (.goto 4, 3) := by decide +kernel
theorem d_MD_variable_22 : decode b_MD_variable 22 = .ok (.iconst 0, 1) := by decide +kernel
theorem d_MD_variable_23 : decode b_MD_variable 23 = .ok (.iconst 0, 1) := by decide +kernel
theorem d_MD_variable_24 : decode b_MD_variable 24 = .ok (.invokevirtual 73, 3) := by decide +kernel
theorem d_MD_variable_27 : decode b_MD_variable 27 = .ok (.ireturn, 1) := by decide +kernel
set_option maxHeartbeats 4000000 in
set_option maxRecDepth 100000 in
theorem c_MD_variable (l : Launch) (D : va_G) (cI cZ : ClassId) (ad : Nat → Nat) (n : Nat) (v : Int32) (u : tm_SC) (hn : u.1 0 = nI n) (hn2 : n ≤ 100) : tm_I l y_MD_variable b_MD_variable 2 .int ({ frames := 1, cells := 0, slots := 0, locals := 27 } : Room) D (tm_yM cI cZ) (tm_wM ad cI cZ) [.ref (ad 0), .int (v)] u (fun r u' => r = (ms_mkR n (ms_vg v) 0) ∧ u' = (ms_varU u n v)) := by
  intro sz
  refine tm_of (Qc := fun A => va_Qi (fun r u' => r = (ms_mkR n (ms_vg v) 0) ∧ u' = (ms_varU u n v)) (fun u' t => tm_B D (tm_yM cI cZ) A (tm_wM ad cI cZ u') t) A) (by decide) (Nat.le_of_ble_eq_true rfl) ?_ sz
  intro pg eg sg mg bel met cg A ls X h hl hnm
  have hx := X.1.1
  have hb := X.1.2.1
  have hl : lv_has ls 2 [(0, .ref (ad 0)), (1, .int (v))] := hl
  refine lv_aload_n hx hb d_MD_variable_0 rfl (lv_at hl 0 rfl) ?_
  refine lv_iload_n hx hb d_MD_variable_1 rfl (lv_at hl 1 rfl) ?_
  refine tm_cIf X h (tm_rS X h (c_MD_isVariable l D cI cZ ad (v) u  _) ks_MD_isVariable kw_682 rfl rfl ⟨by decide, by decide⟩ rfl hl.1 rfl (Nat.le_of_ble_eq_true rfl) d_MD_variable_2 ⟨by decide, by decide⟩) (fun H locs h => ?_)
  refine lv_iconst (v := 1) hx hb d_MD_variable_5 (by decide) ?_
  refine lv_iload_n hx hb d_MD_variable_6 rfl (lv_at hl 1 rfl) ?_
  refine lv_iconst (v := 0) hx hb d_MD_variable_7 (by decide) ?_
  refine lv_iconst (v := 0) hx hb d_MD_variable_8 (by decide) ?_
  refine lv_iload_n hx hb d_MD_variable_9 rfl (lv_at hl 1 rfl) ?_
  refine tm_cIf X h (tm_rS X h (c_MD_isVariable l D cI cZ ad (v) u  _) ks_MD_isVariable kw_682 rfl rfl ⟨by decide, by decide⟩ rfl hl.1 rfl (Nat.le_of_ble_eq_true rfl) d_MD_variable_10 ⟨by decide, by decide⟩) (fun H locs h => ?_)
  refine lv_if_eq hx hb d_MD_variable_13 (tgt := 22) rfl (fun h13t => ?_) (fun h13f => ?_)
  · refine lv_iconst (v := 0) hx hb d_MD_variable_22 (by decide) ?_
    refine lv_iconst (v := 0) hx hb d_MD_variable_23 (by decide) ?_
    refine tm_cIf X h (tm_rV (q0 := 0) X h (c_MD_make l D cI cZ ad (n) (ms_vg v) (1) (v) (0) (0) (0) (0) u (hn) (hn2) _) ki_MD_make kw_674 rfl rfl rfl rfl rfl ⟨by decide, by decide⟩ rfl hl.1 rfl (Nat.le_of_ble_eq_true rfl) d_MD_variable_24 ⟨by decide, by decide⟩) (fun H locs h => ?_)
    exact tm_iret (w := tm_wM ad cI cZ) (u := (ms_mkU u (n) (ms_vg v) (1) (v) (0) (0) (0) (0))) X h (⟨rfl, congrArg (fun z => ms_mkU u n (ms_vg v) 1 v 0 0 z 0) (if_pos h13t).symm⟩) d_MD_variable_27
  · refine lv_iconst (v := 1) hx hb d_MD_variable_16 (by decide) ?_
    refine lv_iload_n hx hb d_MD_variable_17 rfl (lv_at hl 1 rfl) ?_
    refine lv_ishl hx hb d_MD_variable_18 ?_
    refine lv_goto hx hb d_MD_variable_19 (tgt := 23) rfl ?_
    refine lv_iconst (v := 0) hx hb d_MD_variable_23 (by decide) ?_
    refine tm_cIf X h (tm_rV (q0 := 0) X h (c_MD_make l D cI cZ ad (n) (ms_vg v) (1) (v) (0) (0) (1 <<< (v &&& 31)) (0) u (hn) (hn2) _) ki_MD_make kw_674 rfl rfl rfl rfl rfl ⟨by decide, by decide⟩ rfl hl.1 rfl (Nat.le_of_ble_eq_true rfl) d_MD_variable_24 ⟨by decide, by decide⟩) (fun H locs h => ?_)
    exact tm_iret (w := tm_wM ad cI cZ) (u := (ms_mkU u (n) (ms_vg v) (1) (v) (0) (0) (1 <<< (v &&& 31)) (0))) X h (⟨rfl, congrArg (fun z => ms_mkU u n (ms_vg v) 1 v 0 0 z 0) (if_neg h13f).symm⟩) d_MD_variable_27
theorem d_MD_function_0 : decode b_MD_function 0 = .ok (.iload_n 1, 1) := by decide +kernel
theorem d_MD_function_1 : decode b_MD_function 1 = .ok (.iconst (-1), 1) := by decide +kernel
theorem d_MD_function_2 : decode b_MD_function 2 = .ok (.if_icmp .lt 28, 3) := by decide +kernel
theorem d_MD_function_5 : decode b_MD_function 5 = .ok (.iload_n 1, 1) := by decide +kernel
theorem d_MD_function_6 : decode b_MD_function 6 = .ok (.bipush 8, 2) := by decide +kernel
theorem d_MD_function_8 : decode b_MD_function 8 = .ok (.if_icmp .ge 22, 3) := by decide +kernel
theorem d_MD_function_11 : decode b_MD_function 11 = .ok (.iload_n 2, 1) := by decide +kernel
theorem d_MD_function_12 : decode b_MD_function 12 = .ok (.invokestatic 77, 3) := by decide +kernel
theorem d_MD_function_15 : decode b_MD_function 15 = .ok (.ifCond .eq 15, 3) := by decide +kernel
theorem d_MD_function_18 : decode b_MD_function 18 = .ok (.aload_n 0, 1) := by decide +kernel
theorem d_MD_function_19 : decode b_MD_function 19 = .ok (.iload_n 3, 1) := by decide +kernel
theorem d_MD_function_20 : decode b_MD_function 20 = .ok (.invokevirtual 69, 3) := by decide +kernel
theorem d_MD_function_23 : decode b_MD_function 23 = .ok (.ifCond .eq 7, 3) := by decide +kernel
theorem d_MD_function_26 : decode b_MD_function 26 = .ok (.iconst 1, 1) := by decide +kernel
theorem d_MD_function_27 : decode b_MD_function 27 = .ok (.goto 4, 3) := by decide +kernel
theorem d_MD_function_30 : decode b_MD_function 30 = .ok (.iconst 0, 1) := by decide +kernel
theorem d_MD_function_31 : decode b_MD_function 31 = .ok (.istore 4, 2) := by decide +kernel
theorem d_MD_function_33 : decode b_MD_function 33 = .ok (.iload 4, 2) := by decide +kernel
theorem d_MD_function_35 : decode b_MD_function 35 = .ok (.ifCond .eq 21, 3) := by decide +kernel
theorem d_MD_function_38 : decode b_MD_function 38 = .ok (.iconst 1, 1) := by decide +kernel
theorem d_MD_function_39 : decode b_MD_function 39 = .ok (.iload_n 2, 1) := by decide +kernel
theorem d_MD_function_40 : decode b_MD_function 40 = .ok (.ishl, 1) := by decide +kernel
theorem d_MD_function_41 : decode b_MD_function 41 = .ok (.iload_n 1, 1) := by decide +kernel
theorem d_MD_function_42 : decode b_MD_function 42 = .ok (.ifCond .ge 7, 3) := by decide +kernel
theorem d_MD_function_45 : decode b_MD_function 45 = .ok (.iconst 0, 1) := by decide +kernel
theorem d_MD_function_46 : decode b_MD_function 46 = .ok (.goto 6, 3) := by decide +kernel
theorem d_MD_function_49 : decode b_MD_function 49 = .ok (.iconst 1, 1) := by decide +kernel
theorem d_MD_function_50 : decode b_MD_function 50 = .ok (.iload_n 1, 1) := by decide +kernel
theorem d_MD_function_51 : decode b_MD_function 51 = .ok (.ishl, 1) := by decide +kernel
theorem d_MD_function_52 : decode b_MD_function 52 = .ok (.ior, 1) := by decide +kernel
theorem d_MD_function_53 : decode b_MD_function 53 = .ok (.goto 4, 3) := by decide +kernel
theorem d_MD_function_56 : decode b_MD_function 56 = .ok (.iconst 0, 1) := by decide +kernel
theorem d_MD_function_57 : decode b_MD_function 57 = .ok (.istore 5, 2) := by decide +kernel
theorem d_MD_function_59 : decode b_MD_function 59 = .ok (.aload_n 0, 1) := by decide +kernel
theorem d_MD_function_60 : decode b_MD_function 60 = .ok (.iload 4, 2) := by decide +kernel
theorem d_MD_function_62 : decode b_MD_function 62 = .ok (.iconst 2, 1) := by decide +kernel
theorem d_MD_function_63 : decode b_MD_function 63 = .ok (.iload_n 1, 1) := by decide +kernel
theorem d_MD_function_64 : decode b_MD_function 64 = .ok (.iload_n 2, 1) := by decide +kernel
theorem d_MD_function_65 : decode b_MD_function 65 = .ok (.iload_n 3, 1) := by decide +kernel
theorem d_MD_function_66 : decode b_MD_function 66 = .ok (.aload_n 0, 1) := by decide +kernel
theorem d_MD_function_67 : decode b_MD_function 67 = .ok (.iload_n 3, 1) := by decide +kernel
theorem d_MD_function_68 : decode b_MD_function 68 = .ok (.invokevirtual 80, 3) := by decide +kernel
theorem d_MD_function_71 : decode b_MD_function 71 = .ok (.iload 5, 2) := by decide +kernel
theorem d_MD_function_73 : decode b_MD_function 73 = .ok (.iconst (-1), 1) := by decide +kernel
theorem d_MD_function_74 : decode b_MD_function 74 = .ok (.ixor, 1) := by decide +kernel
theorem d_MD_function_75 : decode b_MD_function 75 = .ok (.iand, 1) := by decide +kernel
theorem d_MD_function_76 : decode b_MD_function 76 = .ok (.iconst 1, 1) := by decide +kernel
theorem d_MD_function_77 : decode b_MD_function 77 = .ok (.aload_n 0, 1) := by decide +kernel
theorem d_MD_function_78 : decode b_MD_function 78 = .ok (.iload_n 3, 1) := by decide +kernel
theorem d_MD_function_79 : decode b_MD_function 79 = .ok (.invokevirtual 84, 3) := by decide +kernel
theorem d_MD_function_82 : decode b_MD_function 82 = .ok (.iadd, 1) := by decide +kernel
theorem d_MD_function_83 : decode b_MD_function 83 = .ok (.invokevirtual 73, 3) := by decide +kernel
theorem d_MD_function_86 : decode b_MD_function 86 = .ok (.ireturn, 1) := by decide +kernel
set_option maxHeartbeats 4000000 in
set_option maxRecDepth 100000 in
theorem c_MD_function (l : Launch) (D : va_G) (cI cZ : ClassId) (ad : Nat → Nat) (n : Nat) (s : Int32) (v : Int32) (b : Int32) (u : tm_SC) (hn : u.1 0 = nI n) (hn2 : n ≤ 100) : tm_I l y_MD_function b_MD_function 6 .int ({ frames := 2, cells := 0, slots := 0, locals := 42 } : Room) D (tm_yM cI cZ) (tm_wM ad cI cZ) [.ref (ad 0), .int (s), .int (v), .int (b)] u (fun r u' => r = (ms_mkR n (ms_fg u s v b) (1 + ms_hi u b)) ∧ u' = (ms_funU u n s v b)) := by
  intro sz
  refine tm_of (Qc := fun A => va_Qi (fun r u' => r = (ms_mkR n (ms_fg u s v b) (1 + ms_hi u b)) ∧ u' = (ms_funU u n s v b)) (fun u' t => tm_B D (tm_yM cI cZ) A (tm_wM ad cI cZ u') t) A) (by decide) (Nat.le_of_ble_eq_true rfl) ?_ sz
  intro pg eg sg mg bel met cg A ls X h hl hnm
  have hx := X.1.1
  have hb := X.1.2.1
  have hl : lv_has ls 6 [(0, .ref (ad 0)), (1, .int (s)), (2, .int (v)), (3, .int (b))] := hl
  refine lv_iload_n hx hb d_MD_function_0 rfl (lv_at hl 1 rfl) ?_
  refine lv_iconst (v := -1) hx hb d_MD_function_1 (by decide) ?_
  refine lv_icmp_lt hx hb d_MD_function_2 (tgt := 30) rfl (fun h2t => ?_) (fun h2f => ?_)
  · refine lv_iconst (v := 0) hx hb d_MD_function_30 (by decide) ?_
    refine lv_istore hx hb d_MD_function_31 hl (by decide) rfl (fun ls (hl : lv_has ls 6 [(4, .int (0)), (0, .ref (ad 0)), (1, .int (s)), (2, .int (v)), (3, .int (b))]) => ?_)
    refine lv_iload hx hb d_MD_function_33 (lv_at hl 0 rfl) ?_
    refine lv_if_eq hx hb d_MD_function_35 (tgt := 56) rfl (fun _ => ?_) (fun q => absurd (rfl) q)
    refine lv_iconst (v := 0) hx hb d_MD_function_56 (by decide) ?_
    refine lv_istore hx hb d_MD_function_57 hl (by decide) rfl (fun ls (hl : lv_has ls 6 [(5, .int (0)), (4, .int (0)), (0, .ref (ad 0)), (1, .int (s)), (2, .int (v)), (3, .int (b))]) => ?_)
    refine lv_aload_n hx hb d_MD_function_59 rfl (lv_at hl 2 rfl) ?_
    refine lv_iload hx hb d_MD_function_60 (lv_at hl 1 rfl) ?_
    refine lv_iconst (v := 2) hx hb d_MD_function_62 (by decide) ?_
    refine lv_iload_n hx hb d_MD_function_63 rfl (lv_at hl 3 rfl) ?_
    refine lv_iload_n hx hb d_MD_function_64 rfl (lv_at hl 4 rfl) ?_
    refine lv_iload_n hx hb d_MD_function_65 rfl (lv_at hl 5 rfl) ?_
    refine lv_aload_n hx hb d_MD_function_66 rfl (lv_at hl 2 rfl) ?_
    refine lv_iload_n hx hb d_MD_function_67 rfl (lv_at hl 5 rfl) ?_
    refine tm_cIf X h (tm_rV (q0 := 0) X h (c_MD_freeOf l D cI cZ ad (n) (b) u (hn) (hn2) _) ki_MD_freeOf kw_693 rfl rfl rfl rfl rfl ⟨by decide, by decide⟩ rfl hl.1 rfl (Nat.le_of_ble_eq_true rfl) d_MD_function_68 ⟨by decide, by decide⟩) (fun H locs h => ?_)
    refine lv_iload hx hb d_MD_function_71 (lv_at hl 0 rfl) ?_
    refine lv_iconst (v := -1) hx hb d_MD_function_73 (by decide) ?_
    refine lv_ixor hx hb d_MD_function_74 ?_
    refine lv_iand hx hb d_MD_function_75 ?_
    refine lv_iconst (v := 1) hx hb d_MD_function_76 (by decide) ?_
    refine lv_aload_n hx hb d_MD_function_77 rfl (lv_at hl 2 rfl) ?_
    refine lv_iload_n hx hb d_MD_function_78 rfl (lv_at hl 5 rfl) ?_
    refine tm_cIf X h (tm_rV (q0 := 0) X h (c_MD_highOf l D cI cZ ad (n) (b) u (hn) (hn2) _) ki_MD_highOf kw_697 rfl rfl rfl rfl rfl ⟨by decide, by decide⟩ rfl hl.1 rfl (Nat.le_of_ble_eq_true rfl) d_MD_function_79 ⟨by decide, by decide⟩) (fun H locs h => ?_)
    refine lv_iadd hx hb d_MD_function_82 ?_
    refine tm_cIf X h (tm_rV (q0 := 0) X h (c_MD_make l D cI cZ ad (n) (0) (2) (s) (v) (b) (((ms_fr u (b)) &&& (0 ^^^ (-1)))) ((1 + (ms_hi u (b)))) u (hn) (hn2) _) ki_MD_make kw_674 rfl rfl rfl rfl rfl ⟨by decide, by decide⟩ rfl hl.1 rfl (Nat.le_of_ble_eq_true rfl) d_MD_function_83 ⟨by decide, by decide⟩) (fun H locs h => ?_)
    exact tm_iret (w := tm_wM ad cI cZ) (u := (ms_mkU u (n) (0) (2) (s) (v) (b) (((ms_fr u (b)) &&& (0 ^^^ (-1)))) ((1 + (ms_hi u (b)))))) X h (ms_fun0 (if_pos (Or.inl h2t))) d_MD_function_86
  · refine lv_iload_n hx hb d_MD_function_5 rfl (lv_at hl 1 rfl) ?_
    refine lv_bipush (v := 8) hx hb d_MD_function_6 (by decide) ?_
    refine lv_icmp_ge hx hb d_MD_function_8 (tgt := 30) rfl (fun h8t => ?_) (fun h8f => ?_)
    · refine lv_iconst (v := 0) hx hb d_MD_function_30 (by decide) ?_
      refine lv_istore hx hb d_MD_function_31 hl (by decide) rfl (fun ls (hl : lv_has ls 6 [(4, .int (0)), (0, .ref (ad 0)), (1, .int (s)), (2, .int (v)), (3, .int (b))]) => ?_)
      refine lv_iload hx hb d_MD_function_33 (lv_at hl 0 rfl) ?_
      refine lv_if_eq hx hb d_MD_function_35 (tgt := 56) rfl (fun _ => ?_) (fun q => absurd (rfl) q)
      refine lv_iconst (v := 0) hx hb d_MD_function_56 (by decide) ?_
      refine lv_istore hx hb d_MD_function_57 hl (by decide) rfl (fun ls (hl : lv_has ls 6 [(5, .int (0)), (4, .int (0)), (0, .ref (ad 0)), (1, .int (s)), (2, .int (v)), (3, .int (b))]) => ?_)
      refine lv_aload_n hx hb d_MD_function_59 rfl (lv_at hl 2 rfl) ?_
      refine lv_iload hx hb d_MD_function_60 (lv_at hl 1 rfl) ?_
      refine lv_iconst (v := 2) hx hb d_MD_function_62 (by decide) ?_
      refine lv_iload_n hx hb d_MD_function_63 rfl (lv_at hl 3 rfl) ?_
      refine lv_iload_n hx hb d_MD_function_64 rfl (lv_at hl 4 rfl) ?_
      refine lv_iload_n hx hb d_MD_function_65 rfl (lv_at hl 5 rfl) ?_
      refine lv_aload_n hx hb d_MD_function_66 rfl (lv_at hl 2 rfl) ?_
      refine lv_iload_n hx hb d_MD_function_67 rfl (lv_at hl 5 rfl) ?_
      refine tm_cIf X h (tm_rV (q0 := 0) X h (c_MD_freeOf l D cI cZ ad (n) (b) u (hn) (hn2) _) ki_MD_freeOf kw_693 rfl rfl rfl rfl rfl ⟨by decide, by decide⟩ rfl hl.1 rfl (Nat.le_of_ble_eq_true rfl) d_MD_function_68 ⟨by decide, by decide⟩) (fun H locs h => ?_)
      refine lv_iload hx hb d_MD_function_71 (lv_at hl 0 rfl) ?_
      refine lv_iconst (v := -1) hx hb d_MD_function_73 (by decide) ?_
      refine lv_ixor hx hb d_MD_function_74 ?_
      refine lv_iand hx hb d_MD_function_75 ?_
      refine lv_iconst (v := 1) hx hb d_MD_function_76 (by decide) ?_
      refine lv_aload_n hx hb d_MD_function_77 rfl (lv_at hl 2 rfl) ?_
      refine lv_iload_n hx hb d_MD_function_78 rfl (lv_at hl 5 rfl) ?_
      refine tm_cIf X h (tm_rV (q0 := 0) X h (c_MD_highOf l D cI cZ ad (n) (b) u (hn) (hn2) _) ki_MD_highOf kw_697 rfl rfl rfl rfl rfl ⟨by decide, by decide⟩ rfl hl.1 rfl (Nat.le_of_ble_eq_true rfl) d_MD_function_79 ⟨by decide, by decide⟩) (fun H locs h => ?_)
      refine lv_iadd hx hb d_MD_function_82 ?_
      refine tm_cIf X h (tm_rV (q0 := 0) X h (c_MD_make l D cI cZ ad (n) (0) (2) (s) (v) (b) (((ms_fr u (b)) &&& (0 ^^^ (-1)))) ((1 + (ms_hi u (b)))) u (hn) (hn2) _) ki_MD_make kw_674 rfl rfl rfl rfl rfl ⟨by decide, by decide⟩ rfl hl.1 rfl (Nat.le_of_ble_eq_true rfl) d_MD_function_83 ⟨by decide, by decide⟩) (fun H locs h => ?_)
      exact tm_iret (w := tm_wM ad cI cZ) (u := (ms_mkU u (n) (0) (2) (s) (v) (b) (((ms_fr u (b)) &&& (0 ^^^ (-1)))) ((1 + (ms_hi u (b)))))) X h (ms_fun0 (if_pos (Or.inr (Or.inl h8t)))) d_MD_function_86
    · refine lv_iload_n hx hb d_MD_function_11 rfl (lv_at hl 2 rfl) ?_
      refine tm_cIf X h (tm_rS X h (c_MD_isVariable l D cI cZ ad (v) u  _) ks_MD_isVariable kw_682 rfl rfl ⟨by decide, by decide⟩ rfl hl.1 rfl (Nat.le_of_ble_eq_true rfl) d_MD_function_12 ⟨by decide, by decide⟩) (fun H locs h => ?_)
      refine lv_if_eq hx hb d_MD_function_15 (tgt := 30) rfl (fun h15t => ?_) (fun h15f => ?_)
      · refine lv_iconst (v := 0) hx hb d_MD_function_30 (by decide) ?_
        refine lv_istore hx hb d_MD_function_31 hl (by decide) rfl (fun ls (hl : lv_has ls 6 [(4, .int (0)), (0, .ref (ad 0)), (1, .int (s)), (2, .int (v)), (3, .int (b))]) => ?_)
        refine lv_iload hx hb d_MD_function_33 (lv_at hl 0 rfl) ?_
        refine lv_if_eq hx hb d_MD_function_35 (tgt := 56) rfl (fun _ => ?_) (fun q => absurd (rfl) q)
        refine lv_iconst (v := 0) hx hb d_MD_function_56 (by decide) ?_
        refine lv_istore hx hb d_MD_function_57 hl (by decide) rfl (fun ls (hl : lv_has ls 6 [(5, .int (0)), (4, .int (0)), (0, .ref (ad 0)), (1, .int (s)), (2, .int (v)), (3, .int (b))]) => ?_)
        refine lv_aload_n hx hb d_MD_function_59 rfl (lv_at hl 2 rfl) ?_
        refine lv_iload hx hb d_MD_function_60 (lv_at hl 1 rfl) ?_
        refine lv_iconst (v := 2) hx hb d_MD_function_62 (by decide) ?_
        refine lv_iload_n hx hb d_MD_function_63 rfl (lv_at hl 3 rfl) ?_
        refine lv_iload_n hx hb d_MD_function_64 rfl (lv_at hl 4 rfl) ?_
        refine lv_iload_n hx hb d_MD_function_65 rfl (lv_at hl 5 rfl) ?_
        refine lv_aload_n hx hb d_MD_function_66 rfl (lv_at hl 2 rfl) ?_
        refine lv_iload_n hx hb d_MD_function_67 rfl (lv_at hl 5 rfl) ?_
        refine tm_cIf X h (tm_rV (q0 := 0) X h (c_MD_freeOf l D cI cZ ad (n) (b) u (hn) (hn2) _) ki_MD_freeOf kw_693 rfl rfl rfl rfl rfl ⟨by decide, by decide⟩ rfl hl.1 rfl (Nat.le_of_ble_eq_true rfl) d_MD_function_68 ⟨by decide, by decide⟩) (fun H locs h => ?_)
        refine lv_iload hx hb d_MD_function_71 (lv_at hl 0 rfl) ?_
        refine lv_iconst (v := -1) hx hb d_MD_function_73 (by decide) ?_
        refine lv_ixor hx hb d_MD_function_74 ?_
        refine lv_iand hx hb d_MD_function_75 ?_
        refine lv_iconst (v := 1) hx hb d_MD_function_76 (by decide) ?_
        refine lv_aload_n hx hb d_MD_function_77 rfl (lv_at hl 2 rfl) ?_
        refine lv_iload_n hx hb d_MD_function_78 rfl (lv_at hl 5 rfl) ?_
        refine tm_cIf X h (tm_rV (q0 := 0) X h (c_MD_highOf l D cI cZ ad (n) (b) u (hn) (hn2) _) ki_MD_highOf kw_697 rfl rfl rfl rfl rfl ⟨by decide, by decide⟩ rfl hl.1 rfl (Nat.le_of_ble_eq_true rfl) d_MD_function_79 ⟨by decide, by decide⟩) (fun H locs h => ?_)
        refine lv_iadd hx hb d_MD_function_82 ?_
        refine tm_cIf X h (tm_rV (q0 := 0) X h (c_MD_make l D cI cZ ad (n) (0) (2) (s) (v) (b) (((ms_fr u (b)) &&& (0 ^^^ (-1)))) ((1 + (ms_hi u (b)))) u (hn) (hn2) _) ki_MD_make kw_674 rfl rfl rfl rfl rfl ⟨by decide, by decide⟩ rfl hl.1 rfl (Nat.le_of_ble_eq_true rfl) d_MD_function_83 ⟨by decide, by decide⟩) (fun H locs h => ?_)
        exact tm_iret (w := tm_wM ad cI cZ) (u := (ms_mkU u (n) (0) (2) (s) (v) (b) (((ms_fr u (b)) &&& (0 ^^^ (-1)))) ((1 + (ms_hi u (b)))))) X h (ms_fun0 (if_pos (Or.inr (Or.inr (Or.inl h15t))))) d_MD_function_86
      · refine lv_aload_n hx hb d_MD_function_18 rfl (lv_at hl 0 rfl) ?_
        refine lv_iload_n hx hb d_MD_function_19 rfl (lv_at hl 3 rfl) ?_
        refine tm_cIf X h (tm_rV (q0 := 0) X h (c_MD_isPart l D cI cZ ad (b) u  _) ki_MD_isPart kw_689 rfl rfl rfl rfl rfl ⟨by decide, by decide⟩ rfl hl.1 rfl (Nat.le_of_ble_eq_true rfl) d_MD_function_20 ⟨by decide, by decide⟩) (fun H locs h => ?_)
        refine lv_if_eq hx hb d_MD_function_23 (tgt := 30) rfl (fun h23t => ?_) (fun h23f => ?_)
        · refine lv_iconst (v := 0) hx hb d_MD_function_30 (by decide) ?_
          refine lv_istore hx hb d_MD_function_31 hl (by decide) rfl (fun ls (hl : lv_has ls 6 [(4, .int (0)), (0, .ref (ad 0)), (1, .int (s)), (2, .int (v)), (3, .int (b))]) => ?_)
          refine lv_iload hx hb d_MD_function_33 (lv_at hl 0 rfl) ?_
          refine lv_if_eq hx hb d_MD_function_35 (tgt := 56) rfl (fun _ => ?_) (fun q => absurd (rfl) q)
          refine lv_iconst (v := 0) hx hb d_MD_function_56 (by decide) ?_
          refine lv_istore hx hb d_MD_function_57 hl (by decide) rfl (fun ls (hl : lv_has ls 6 [(5, .int (0)), (4, .int (0)), (0, .ref (ad 0)), (1, .int (s)), (2, .int (v)), (3, .int (b))]) => ?_)
          refine lv_aload_n hx hb d_MD_function_59 rfl (lv_at hl 2 rfl) ?_
          refine lv_iload hx hb d_MD_function_60 (lv_at hl 1 rfl) ?_
          refine lv_iconst (v := 2) hx hb d_MD_function_62 (by decide) ?_
          refine lv_iload_n hx hb d_MD_function_63 rfl (lv_at hl 3 rfl) ?_
          refine lv_iload_n hx hb d_MD_function_64 rfl (lv_at hl 4 rfl) ?_
          refine lv_iload_n hx hb d_MD_function_65 rfl (lv_at hl 5 rfl) ?_
          refine lv_aload_n hx hb d_MD_function_66 rfl (lv_at hl 2 rfl) ?_
          refine lv_iload_n hx hb d_MD_function_67 rfl (lv_at hl 5 rfl) ?_
          refine tm_cIf X h (tm_rV (q0 := 0) X h (c_MD_freeOf l D cI cZ ad (n) (b) u (hn) (hn2) _) ki_MD_freeOf kw_693 rfl rfl rfl rfl rfl ⟨by decide, by decide⟩ rfl hl.1 rfl (Nat.le_of_ble_eq_true rfl) d_MD_function_68 ⟨by decide, by decide⟩) (fun H locs h => ?_)
          refine lv_iload hx hb d_MD_function_71 (lv_at hl 0 rfl) ?_
          refine lv_iconst (v := -1) hx hb d_MD_function_73 (by decide) ?_
          refine lv_ixor hx hb d_MD_function_74 ?_
          refine lv_iand hx hb d_MD_function_75 ?_
          refine lv_iconst (v := 1) hx hb d_MD_function_76 (by decide) ?_
          refine lv_aload_n hx hb d_MD_function_77 rfl (lv_at hl 2 rfl) ?_
          refine lv_iload_n hx hb d_MD_function_78 rfl (lv_at hl 5 rfl) ?_
          refine tm_cIf X h (tm_rV (q0 := 0) X h (c_MD_highOf l D cI cZ ad (n) (b) u (hn) (hn2) _) ki_MD_highOf kw_697 rfl rfl rfl rfl rfl ⟨by decide, by decide⟩ rfl hl.1 rfl (Nat.le_of_ble_eq_true rfl) d_MD_function_79 ⟨by decide, by decide⟩) (fun H locs h => ?_)
          refine lv_iadd hx hb d_MD_function_82 ?_
          refine tm_cIf X h (tm_rV (q0 := 0) X h (c_MD_make l D cI cZ ad (n) (0) (2) (s) (v) (b) (((ms_fr u (b)) &&& (0 ^^^ (-1)))) ((1 + (ms_hi u (b)))) u (hn) (hn2) _) ki_MD_make kw_674 rfl rfl rfl rfl rfl ⟨by decide, by decide⟩ rfl hl.1 rfl (Nat.le_of_ble_eq_true rfl) d_MD_function_83 ⟨by decide, by decide⟩) (fun H locs h => ?_)
          exact tm_iret (w := tm_wM ad cI cZ) (u := (ms_mkU u (n) (0) (2) (s) (v) (b) (((ms_fr u (b)) &&& (0 ^^^ (-1)))) ((1 + (ms_hi u (b)))))) X h (ms_fun0 (if_pos (Or.inr (Or.inr (Or.inr (tm_ite0.mp h23t)))))) d_MD_function_86
        · refine lv_iconst (v := 1) hx hb d_MD_function_26 (by decide) ?_
          refine lv_goto hx hb d_MD_function_27 (tgt := 31) rfl ?_
          refine lv_istore hx hb d_MD_function_31 hl (by decide) rfl (fun ls (hl : lv_has ls 6 [(4, .int (1)), (0, .ref (ad 0)), (1, .int (s)), (2, .int (v)), (3, .int (b))]) => ?_)
          refine lv_iload hx hb d_MD_function_33 (lv_at hl 0 rfl) ?_
          refine lv_if_eq hx hb d_MD_function_35 (tgt := 56) rfl (fun q => absurd q ((by decide))) (fun _ => ?_)
          refine lv_iconst (v := 1) hx hb d_MD_function_38 (by decide) ?_
          refine lv_iload_n hx hb d_MD_function_39 rfl (lv_at hl 3 rfl) ?_
          refine lv_ishl hx hb d_MD_function_40 ?_
          refine lv_iload_n hx hb d_MD_function_41 rfl (lv_at hl 2 rfl) ?_
          refine lv_if_ge hx hb d_MD_function_42 (tgt := 49) rfl (fun h42t => ?_) (fun h42f => ?_)
          · refine lv_iconst (v := 1) hx hb d_MD_function_49 (by decide) ?_
            refine lv_iload_n hx hb d_MD_function_50 rfl (lv_at hl 2 rfl) ?_
            refine lv_ishl hx hb d_MD_function_51 ?_
            refine lv_ior hx hb d_MD_function_52 ?_
            refine lv_goto hx hb d_MD_function_53 (tgt := 57) rfl ?_
            refine lv_istore hx hb d_MD_function_57 hl (by decide) rfl (fun ls (hl : lv_has ls 6 [(5, .int (((1 <<< (v &&& 31)) ||| (1 <<< (s &&& 31))))), (4, .int (1)), (0, .ref (ad 0)), (1, .int (s)), (2, .int (v)), (3, .int (b))]) => ?_)
            refine lv_aload_n hx hb d_MD_function_59 rfl (lv_at hl 2 rfl) ?_
            refine lv_iload hx hb d_MD_function_60 (lv_at hl 1 rfl) ?_
            refine lv_iconst (v := 2) hx hb d_MD_function_62 (by decide) ?_
            refine lv_iload_n hx hb d_MD_function_63 rfl (lv_at hl 3 rfl) ?_
            refine lv_iload_n hx hb d_MD_function_64 rfl (lv_at hl 4 rfl) ?_
            refine lv_iload_n hx hb d_MD_function_65 rfl (lv_at hl 5 rfl) ?_
            refine lv_aload_n hx hb d_MD_function_66 rfl (lv_at hl 2 rfl) ?_
            refine lv_iload_n hx hb d_MD_function_67 rfl (lv_at hl 5 rfl) ?_
            refine tm_cIf X h (tm_rV (q0 := 0) X h (c_MD_freeOf l D cI cZ ad (n) (b) u (hn) (hn2) _) ki_MD_freeOf kw_693 rfl rfl rfl rfl rfl ⟨by decide, by decide⟩ rfl hl.1 rfl (Nat.le_of_ble_eq_true rfl) d_MD_function_68 ⟨by decide, by decide⟩) (fun H locs h => ?_)
            refine lv_iload hx hb d_MD_function_71 (lv_at hl 0 rfl) ?_
            refine lv_iconst (v := -1) hx hb d_MD_function_73 (by decide) ?_
            refine lv_ixor hx hb d_MD_function_74 ?_
            refine lv_iand hx hb d_MD_function_75 ?_
            refine lv_iconst (v := 1) hx hb d_MD_function_76 (by decide) ?_
            refine lv_aload_n hx hb d_MD_function_77 rfl (lv_at hl 2 rfl) ?_
            refine lv_iload_n hx hb d_MD_function_78 rfl (lv_at hl 5 rfl) ?_
            refine tm_cIf X h (tm_rV (q0 := 0) X h (c_MD_highOf l D cI cZ ad (n) (b) u (hn) (hn2) _) ki_MD_highOf kw_697 rfl rfl rfl rfl rfl ⟨by decide, by decide⟩ rfl hl.1 rfl (Nat.le_of_ble_eq_true rfl) d_MD_function_79 ⟨by decide, by decide⟩) (fun H locs h => ?_)
            refine lv_iadd hx hb d_MD_function_82 ?_
            refine tm_cIf X h (tm_rV (q0 := 0) X h (c_MD_make l D cI cZ ad (n) (1) (2) (s) (v) (b) (((ms_fr u (b)) &&& (((1 <<< (v &&& 31)) ||| (1 <<< (s &&& 31))) ^^^ (-1)))) ((1 + (ms_hi u (b)))) u (hn) (hn2) _) ki_MD_make kw_674 rfl rfl rfl rfl rfl ⟨by decide, by decide⟩ rfl hl.1 rfl (Nat.le_of_ble_eq_true rfl) d_MD_function_83 ⟨by decide, by decide⟩) (fun H locs h => ?_)
            exact tm_iret (w := tm_wM ad cI cZ) (u := (ms_mkU u (n) (1) (2) (s) (v) (b) (((ms_fr u (b)) &&& (((1 <<< (v &&& 31)) ||| (1 <<< (s &&& 31))) ^^^ (-1)))) ((1 + (ms_hi u (b)))))) X h (ms_fun1 (fun q => q.elim h2f (fun q => q.elim h8f (fun q => q.elim h15f (fun q => h23f (tm_ite0.mpr q))))) (if_pos h42t).symm) d_MD_function_86
          · refine lv_iconst (v := 0) hx hb d_MD_function_45 (by decide) ?_
            refine lv_goto hx hb d_MD_function_46 (tgt := 52) rfl ?_
            refine lv_ior hx hb d_MD_function_52 ?_
            refine lv_goto hx hb d_MD_function_53 (tgt := 57) rfl ?_
            refine lv_istore hx hb d_MD_function_57 hl (by decide) rfl (fun ls (hl : lv_has ls 6 [(5, .int (((1 <<< (v &&& 31)) ||| 0))), (4, .int (1)), (0, .ref (ad 0)), (1, .int (s)), (2, .int (v)), (3, .int (b))]) => ?_)
            refine lv_aload_n hx hb d_MD_function_59 rfl (lv_at hl 2 rfl) ?_
            refine lv_iload hx hb d_MD_function_60 (lv_at hl 1 rfl) ?_
            refine lv_iconst (v := 2) hx hb d_MD_function_62 (by decide) ?_
            refine lv_iload_n hx hb d_MD_function_63 rfl (lv_at hl 3 rfl) ?_
            refine lv_iload_n hx hb d_MD_function_64 rfl (lv_at hl 4 rfl) ?_
            refine lv_iload_n hx hb d_MD_function_65 rfl (lv_at hl 5 rfl) ?_
            refine lv_aload_n hx hb d_MD_function_66 rfl (lv_at hl 2 rfl) ?_
            refine lv_iload_n hx hb d_MD_function_67 rfl (lv_at hl 5 rfl) ?_
            refine tm_cIf X h (tm_rV (q0 := 0) X h (c_MD_freeOf l D cI cZ ad (n) (b) u (hn) (hn2) _) ki_MD_freeOf kw_693 rfl rfl rfl rfl rfl ⟨by decide, by decide⟩ rfl hl.1 rfl (Nat.le_of_ble_eq_true rfl) d_MD_function_68 ⟨by decide, by decide⟩) (fun H locs h => ?_)
            refine lv_iload hx hb d_MD_function_71 (lv_at hl 0 rfl) ?_
            refine lv_iconst (v := -1) hx hb d_MD_function_73 (by decide) ?_
            refine lv_ixor hx hb d_MD_function_74 ?_
            refine lv_iand hx hb d_MD_function_75 ?_
            refine lv_iconst (v := 1) hx hb d_MD_function_76 (by decide) ?_
            refine lv_aload_n hx hb d_MD_function_77 rfl (lv_at hl 2 rfl) ?_
            refine lv_iload_n hx hb d_MD_function_78 rfl (lv_at hl 5 rfl) ?_
            refine tm_cIf X h (tm_rV (q0 := 0) X h (c_MD_highOf l D cI cZ ad (n) (b) u (hn) (hn2) _) ki_MD_highOf kw_697 rfl rfl rfl rfl rfl ⟨by decide, by decide⟩ rfl hl.1 rfl (Nat.le_of_ble_eq_true rfl) d_MD_function_79 ⟨by decide, by decide⟩) (fun H locs h => ?_)
            refine lv_iadd hx hb d_MD_function_82 ?_
            refine tm_cIf X h (tm_rV (q0 := 0) X h (c_MD_make l D cI cZ ad (n) (1) (2) (s) (v) (b) (((ms_fr u (b)) &&& (((1 <<< (v &&& 31)) ||| 0) ^^^ (-1)))) ((1 + (ms_hi u (b)))) u (hn) (hn2) _) ki_MD_make kw_674 rfl rfl rfl rfl rfl ⟨by decide, by decide⟩ rfl hl.1 rfl (Nat.le_of_ble_eq_true rfl) d_MD_function_83 ⟨by decide, by decide⟩) (fun H locs h => ?_)
            exact tm_iret (w := tm_wM ad cI cZ) (u := (ms_mkU u (n) (1) (2) (s) (v) (b) (((ms_fr u (b)) &&& (((1 <<< (v &&& 31)) ||| 0) ^^^ (-1)))) ((1 + (ms_hi u (b)))))) X h (ms_fun1 (fun q => q.elim h2f (fun q => q.elim h8f (fun q => q.elim h15f (fun q => h23f (tm_ite0.mpr q))))) (if_neg h42f).symm) d_MD_function_86
theorem d_MD_call_0 : decode b_MD_call 0 = .ok (.aload_n 0, 1) := by decide +kernel
theorem d_MD_call_1 : decode b_MD_call 1 = .ok (.aload_n 0, 1) := by decide +kernel
theorem d_MD_call_2 : decode b_MD_call 2 = .ok (.iload_n 1, 1) := by decide +kernel
theorem d_MD_call_3 : decode b_MD_call 3 = .ok (.invokevirtual 69, 3) := by decide +kernel
theorem d_MD_call_6 : decode b_MD_call 6 = .ok (.ifCond .eq 15, 3) := by decide +kernel
theorem d_MD_call_9 : decode b_MD_call 9 = .ok (.aload_n 0, 1) := by decide +kernel
theorem d_MD_call_10 : decode b_MD_call 10 = .ok (.iload_n 2, 1) := by decide +kernel
theorem d_MD_call_11 : decode b_MD_call 11 = .ok (.invokevirtual 69, 3) := by decide +kernel
theorem d_MD_call_14 : decode b_MD_call 14 = .ok (.ifCond .eq 7, 3) := by decide +kernel
theorem d_MD_call_17 : decode b_MD_call 17 = .ok (.iconst 1, 1) := by decide +kernel
theorem d_MD_call_18 : decode b_MD_call 18 = .ok (.goto 4, 3) := by decide +kernel
theorem d_MD_call_21 : decode b_MD_call 21 = .ok (.iconst 0, 1) := by decide +kernel
theorem d_MD_call_22 : decode b_MD_call 22 = .ok (.iconst 3, 1) := by decide +kernel
theorem d_MD_call_23 : decode b_MD_call 23 = .ok (.iload_n 1, 1) := by decide +kernel
theorem d_MD_call_24 : decode b_MD_call 24 = .ok (.iload_n 2, 1) := by decide +kernel
theorem d_MD_call_25 : decode b_MD_call 25 = .ok (.iconst 0, 1) := by decide +kernel
theorem d_MD_call_26 : decode b_MD_call 26 = .ok (.aload_n 0, 1) := by decide +kernel
theorem d_MD_call_27 : decode b_MD_call 27 = .ok (.iload_n 1, 1) := by decide +kernel
theorem d_MD_call_28 : decode b_MD_call 28 = .ok (.invokevirtual 80, 3) := by decide +kernel
theorem d_MD_call_31 : decode b_MD_call 31 = .ok (.aload_n 0, 1) := by decide +kernel
theorem d_MD_call_32 : decode b_MD_call 32 = .ok (.iload_n 2, 1) := by decide +kernel
theorem d_MD_call_33 : decode b_MD_call 33 = .ok (.invokevirtual 80, 3) := by decide +kernel
theorem d_MD_call_36 : decode b_MD_call 36 = .ok (.ior, 1) := by decide +kernel
theorem d_MD_call_37 : decode b_MD_call 37 = .ok (.iconst 1, 1) := by decide +kernel
theorem d_MD_call_38 : decode b_MD_call 38 = .ok (.aload_n 0, 1) := by decide +kernel
theorem d_MD_call_39 : decode b_MD_call 39 = .ok (.iload_n 1, 1) := by decide +kernel
theorem d_MD_call_40 : decode b_MD_call 40 = .ok (.invokevirtual 84, 3) := by decide +kernel
theorem d_MD_call_43 : decode b_MD_call 43 = .ok (.aload_n 0, 1) := by decide +kernel
theorem d_MD_call_44 : decode b_MD_call 44 = .ok (.iload_n 2, 1) := by decide +kernel
theorem d_MD_call_45 : decode b_MD_call 45 = .ok (.invokevirtual 84, 3) := by decide +kernel
theorem d_MD_call_48 : decode b_MD_call 48 = .ok (.invokestatic 87, 3) := by decide +kernel
theorem d_MD_call_51 : decode b_MD_call 51 = .ok (.iadd, 1) := by decide +kernel
theorem d_MD_call_52 : decode b_MD_call 52 = .ok (.invokevirtual 73, 3) := by decide +kernel
theorem d_MD_call_55 : decode b_MD_call 55 = .ok (.ireturn, 1) := by decide +kernel
set_option maxHeartbeats 4000000 in
set_option maxRecDepth 100000 in
theorem c_MD_call (l : Launch) (D : va_G) (cI cZ : ClassId) (ad : Nat → Nat) (n : Nat) (f : Int32) (x : Int32) (u : tm_SC) (hn : u.1 0 = nI n) (hn2 : n ≤ 100) : tm_I l y_MD_call b_MD_call 3 .int ({ frames := 2, cells := 0, slots := 0, locals := 50 } : Room) D (tm_yM cI cZ) (tm_wM ad cI cZ) [.ref (ad 0), .int (f), .int (x)] u (fun r u' => r = (ms_mkR n (ms_cg u f x) (1 + ms_gr (ms_hi u f) (ms_hi u x))) ∧ u' = (ms_calU u n f x)) := by
  intro sz
  refine tm_of (Qc := fun A => va_Qi (fun r u' => r = (ms_mkR n (ms_cg u f x) (1 + ms_gr (ms_hi u f) (ms_hi u x))) ∧ u' = (ms_calU u n f x)) (fun u' t => tm_B D (tm_yM cI cZ) A (tm_wM ad cI cZ u') t) A) (by decide) (Nat.le_of_ble_eq_true rfl) ?_ sz
  intro pg eg sg mg bel met cg A ls X h hl hnm
  have hx := X.1.1
  have hb := X.1.2.1
  have hl : lv_has ls 3 [(0, .ref (ad 0)), (1, .int (f)), (2, .int (x))] := hl
  refine lv_aload_n hx hb d_MD_call_0 rfl (lv_at hl 0 rfl) ?_
  refine lv_aload_n hx hb d_MD_call_1 rfl (lv_at hl 0 rfl) ?_
  refine lv_iload_n hx hb d_MD_call_2 rfl (lv_at hl 1 rfl) ?_
  refine tm_cIf X h (tm_rV (q0 := 0) X h (c_MD_isPart l D cI cZ ad (f) u  _) ki_MD_isPart kw_689 rfl rfl rfl rfl rfl ⟨by decide, by decide⟩ rfl hl.1 rfl (Nat.le_of_ble_eq_true rfl) d_MD_call_3 ⟨by decide, by decide⟩) (fun H locs h => ?_)
  refine lv_if_eq hx hb d_MD_call_6 (tgt := 21) rfl (fun h6t => ?_) (fun h6f => ?_)
  · refine lv_iconst (v := 0) hx hb d_MD_call_21 (by decide) ?_
    refine lv_iconst (v := 3) hx hb d_MD_call_22 (by decide) ?_
    refine lv_iload_n hx hb d_MD_call_23 rfl (lv_at hl 1 rfl) ?_
    refine lv_iload_n hx hb d_MD_call_24 rfl (lv_at hl 2 rfl) ?_
    refine lv_iconst (v := 0) hx hb d_MD_call_25 (by decide) ?_
    refine lv_aload_n hx hb d_MD_call_26 rfl (lv_at hl 0 rfl) ?_
    refine lv_iload_n hx hb d_MD_call_27 rfl (lv_at hl 1 rfl) ?_
    refine tm_cIf X h (tm_rV (q0 := 0) X h (c_MD_freeOf l D cI cZ ad (n) (f) u (hn) (hn2) _) ki_MD_freeOf kw_693 rfl rfl rfl rfl rfl ⟨by decide, by decide⟩ rfl hl.1 rfl (Nat.le_of_ble_eq_true rfl) d_MD_call_28 ⟨by decide, by decide⟩) (fun H locs h => ?_)
    refine lv_aload_n hx hb d_MD_call_31 rfl (lv_at hl 0 rfl) ?_
    refine lv_iload_n hx hb d_MD_call_32 rfl (lv_at hl 2 rfl) ?_
    refine tm_cIf X h (tm_rV (q0 := 0) X h (c_MD_freeOf l D cI cZ ad (n) (x) u (hn) (hn2) _) ki_MD_freeOf kw_693 rfl rfl rfl rfl rfl ⟨by decide, by decide⟩ rfl hl.1 rfl (Nat.le_of_ble_eq_true rfl) d_MD_call_33 ⟨by decide, by decide⟩) (fun H locs h => ?_)
    refine lv_ior hx hb d_MD_call_36 ?_
    refine lv_iconst (v := 1) hx hb d_MD_call_37 (by decide) ?_
    refine lv_aload_n hx hb d_MD_call_38 rfl (lv_at hl 0 rfl) ?_
    refine lv_iload_n hx hb d_MD_call_39 rfl (lv_at hl 1 rfl) ?_
    refine tm_cIf X h (tm_rV (q0 := 0) X h (c_MD_highOf l D cI cZ ad (n) (f) u (hn) (hn2) _) ki_MD_highOf kw_697 rfl rfl rfl rfl rfl ⟨by decide, by decide⟩ rfl hl.1 rfl (Nat.le_of_ble_eq_true rfl) d_MD_call_40 ⟨by decide, by decide⟩) (fun H locs h => ?_)
    refine lv_aload_n hx hb d_MD_call_43 rfl (lv_at hl 0 rfl) ?_
    refine lv_iload_n hx hb d_MD_call_44 rfl (lv_at hl 2 rfl) ?_
    refine tm_cIf X h (tm_rV16 (q0 := 0) X h (c_MD_highOf l D cI cZ ad (n) (x) u (hn) (hn2) _) ki_MD_highOf kw_697 rfl rfl rfl rfl rfl ⟨by decide, by decide⟩ rfl hl.1 rfl (Nat.le_of_ble_eq_true rfl) d_MD_call_45 ⟨by decide, by decide⟩) (fun H locs h => ?_)
    refine tm_cIf X h (tm_rS X h (c_MD_greatest l D cI cZ ad ((ms_hi u (f))) ((ms_hi u (x))) u  _) ks_MD_greatest kw_705 rfl rfl ⟨by decide, by decide⟩ rfl hl.1 rfl (Nat.le_of_ble_eq_true rfl) d_MD_call_48 ⟨by decide, by decide⟩) (fun H locs h => ?_)
    refine lv_iadd hx hb d_MD_call_51 ?_
    refine tm_cIf X h (tm_rV (q0 := 0) X h (c_MD_make l D cI cZ ad (n) (0) (3) (f) (x) (0) (((ms_fr u (f)) ||| (ms_fr u (x)))) ((1 + (ms_gr ((ms_hi u (f))) ((ms_hi u (x)))))) u (hn) (hn2) _) ki_MD_make kw_674 rfl rfl rfl rfl rfl ⟨by decide, by decide⟩ rfl hl.1 rfl (Nat.le_of_ble_eq_true rfl) d_MD_call_52 ⟨by decide, by decide⟩) (fun H locs h => ?_)
    exact tm_iret (w := tm_wM ad cI cZ) (u := (ms_mkU u (n) (0) (3) (f) (x) (0) (((ms_fr u (f)) ||| (ms_fr u (x)))) ((1 + (ms_gr ((ms_hi u (f))) ((ms_hi u (x)))))))) X h (by unfold ms_calU; rw [show ms_cg u f x = 0 from if_pos (Or.inl (tm_ite0.mp h6t))]; exact ⟨rfl, rfl⟩) d_MD_call_55
  · refine lv_aload_n hx hb d_MD_call_9 rfl (lv_at hl 0 rfl) ?_
    refine lv_iload_n hx hb d_MD_call_10 rfl (lv_at hl 2 rfl) ?_
    refine tm_cIf X h (tm_rV (q0 := 0) X h (c_MD_isPart l D cI cZ ad (x) u  _) ki_MD_isPart kw_689 rfl rfl rfl rfl rfl ⟨by decide, by decide⟩ rfl hl.1 rfl (Nat.le_of_ble_eq_true rfl) d_MD_call_11 ⟨by decide, by decide⟩) (fun H locs h => ?_)
    refine lv_if_eq hx hb d_MD_call_14 (tgt := 21) rfl (fun h14t => ?_) (fun h14f => ?_)
    · refine lv_iconst (v := 0) hx hb d_MD_call_21 (by decide) ?_
      refine lv_iconst (v := 3) hx hb d_MD_call_22 (by decide) ?_
      refine lv_iload_n hx hb d_MD_call_23 rfl (lv_at hl 1 rfl) ?_
      refine lv_iload_n hx hb d_MD_call_24 rfl (lv_at hl 2 rfl) ?_
      refine lv_iconst (v := 0) hx hb d_MD_call_25 (by decide) ?_
      refine lv_aload_n hx hb d_MD_call_26 rfl (lv_at hl 0 rfl) ?_
      refine lv_iload_n hx hb d_MD_call_27 rfl (lv_at hl 1 rfl) ?_
      refine tm_cIf X h (tm_rV (q0 := 0) X h (c_MD_freeOf l D cI cZ ad (n) (f) u (hn) (hn2) _) ki_MD_freeOf kw_693 rfl rfl rfl rfl rfl ⟨by decide, by decide⟩ rfl hl.1 rfl (Nat.le_of_ble_eq_true rfl) d_MD_call_28 ⟨by decide, by decide⟩) (fun H locs h => ?_)
      refine lv_aload_n hx hb d_MD_call_31 rfl (lv_at hl 0 rfl) ?_
      refine lv_iload_n hx hb d_MD_call_32 rfl (lv_at hl 2 rfl) ?_
      refine tm_cIf X h (tm_rV (q0 := 0) X h (c_MD_freeOf l D cI cZ ad (n) (x) u (hn) (hn2) _) ki_MD_freeOf kw_693 rfl rfl rfl rfl rfl ⟨by decide, by decide⟩ rfl hl.1 rfl (Nat.le_of_ble_eq_true rfl) d_MD_call_33 ⟨by decide, by decide⟩) (fun H locs h => ?_)
      refine lv_ior hx hb d_MD_call_36 ?_
      refine lv_iconst (v := 1) hx hb d_MD_call_37 (by decide) ?_
      refine lv_aload_n hx hb d_MD_call_38 rfl (lv_at hl 0 rfl) ?_
      refine lv_iload_n hx hb d_MD_call_39 rfl (lv_at hl 1 rfl) ?_
      refine tm_cIf X h (tm_rV (q0 := 0) X h (c_MD_highOf l D cI cZ ad (n) (f) u (hn) (hn2) _) ki_MD_highOf kw_697 rfl rfl rfl rfl rfl ⟨by decide, by decide⟩ rfl hl.1 rfl (Nat.le_of_ble_eq_true rfl) d_MD_call_40 ⟨by decide, by decide⟩) (fun H locs h => ?_)
      refine lv_aload_n hx hb d_MD_call_43 rfl (lv_at hl 0 rfl) ?_
      refine lv_iload_n hx hb d_MD_call_44 rfl (lv_at hl 2 rfl) ?_
      refine tm_cIf X h (tm_rV16 (q0 := 0) X h (c_MD_highOf l D cI cZ ad (n) (x) u (hn) (hn2) _) ki_MD_highOf kw_697 rfl rfl rfl rfl rfl ⟨by decide, by decide⟩ rfl hl.1 rfl (Nat.le_of_ble_eq_true rfl) d_MD_call_45 ⟨by decide, by decide⟩) (fun H locs h => ?_)
      refine tm_cIf X h (tm_rS X h (c_MD_greatest l D cI cZ ad ((ms_hi u (f))) ((ms_hi u (x))) u  _) ks_MD_greatest kw_705 rfl rfl ⟨by decide, by decide⟩ rfl hl.1 rfl (Nat.le_of_ble_eq_true rfl) d_MD_call_48 ⟨by decide, by decide⟩) (fun H locs h => ?_)
      refine lv_iadd hx hb d_MD_call_51 ?_
      refine tm_cIf X h (tm_rV (q0 := 0) X h (c_MD_make l D cI cZ ad (n) (0) (3) (f) (x) (0) (((ms_fr u (f)) ||| (ms_fr u (x)))) ((1 + (ms_gr ((ms_hi u (f))) ((ms_hi u (x)))))) u (hn) (hn2) _) ki_MD_make kw_674 rfl rfl rfl rfl rfl ⟨by decide, by decide⟩ rfl hl.1 rfl (Nat.le_of_ble_eq_true rfl) d_MD_call_52 ⟨by decide, by decide⟩) (fun H locs h => ?_)
      exact tm_iret (w := tm_wM ad cI cZ) (u := (ms_mkU u (n) (0) (3) (f) (x) (0) (((ms_fr u (f)) ||| (ms_fr u (x)))) ((1 + (ms_gr ((ms_hi u (f))) ((ms_hi u (x)))))))) X h (by unfold ms_calU; rw [show ms_cg u f x = 0 from if_pos (Or.inr (tm_ite0.mp h14t))]; exact ⟨rfl, rfl⟩) d_MD_call_55
    · refine lv_iconst (v := 1) hx hb d_MD_call_17 (by decide) ?_
      refine lv_goto hx hb d_MD_call_18 (tgt := 22) rfl ?_
      refine lv_iconst (v := 3) hx hb d_MD_call_22 (by decide) ?_
      refine lv_iload_n hx hb d_MD_call_23 rfl (lv_at hl 1 rfl) ?_
      refine lv_iload_n hx hb d_MD_call_24 rfl (lv_at hl 2 rfl) ?_
      refine lv_iconst (v := 0) hx hb d_MD_call_25 (by decide) ?_
      refine lv_aload_n hx hb d_MD_call_26 rfl (lv_at hl 0 rfl) ?_
      refine lv_iload_n hx hb d_MD_call_27 rfl (lv_at hl 1 rfl) ?_
      refine tm_cIf X h (tm_rV (q0 := 0) X h (c_MD_freeOf l D cI cZ ad (n) (f) u (hn) (hn2) _) ki_MD_freeOf kw_693 rfl rfl rfl rfl rfl ⟨by decide, by decide⟩ rfl hl.1 rfl (Nat.le_of_ble_eq_true rfl) d_MD_call_28 ⟨by decide, by decide⟩) (fun H locs h => ?_)
      refine lv_aload_n hx hb d_MD_call_31 rfl (lv_at hl 0 rfl) ?_
      refine lv_iload_n hx hb d_MD_call_32 rfl (lv_at hl 2 rfl) ?_
      refine tm_cIf X h (tm_rV (q0 := 0) X h (c_MD_freeOf l D cI cZ ad (n) (x) u (hn) (hn2) _) ki_MD_freeOf kw_693 rfl rfl rfl rfl rfl ⟨by decide, by decide⟩ rfl hl.1 rfl (Nat.le_of_ble_eq_true rfl) d_MD_call_33 ⟨by decide, by decide⟩) (fun H locs h => ?_)
      refine lv_ior hx hb d_MD_call_36 ?_
      refine lv_iconst (v := 1) hx hb d_MD_call_37 (by decide) ?_
      refine lv_aload_n hx hb d_MD_call_38 rfl (lv_at hl 0 rfl) ?_
      refine lv_iload_n hx hb d_MD_call_39 rfl (lv_at hl 1 rfl) ?_
      refine tm_cIf X h (tm_rV (q0 := 0) X h (c_MD_highOf l D cI cZ ad (n) (f) u (hn) (hn2) _) ki_MD_highOf kw_697 rfl rfl rfl rfl rfl ⟨by decide, by decide⟩ rfl hl.1 rfl (Nat.le_of_ble_eq_true rfl) d_MD_call_40 ⟨by decide, by decide⟩) (fun H locs h => ?_)
      refine lv_aload_n hx hb d_MD_call_43 rfl (lv_at hl 0 rfl) ?_
      refine lv_iload_n hx hb d_MD_call_44 rfl (lv_at hl 2 rfl) ?_
      refine tm_cIf X h (tm_rV16 (q0 := 0) X h (c_MD_highOf l D cI cZ ad (n) (x) u (hn) (hn2) _) ki_MD_highOf kw_697 rfl rfl rfl rfl rfl ⟨by decide, by decide⟩ rfl hl.1 rfl (Nat.le_of_ble_eq_true rfl) d_MD_call_45 ⟨by decide, by decide⟩) (fun H locs h => ?_)
      refine tm_cIf X h (tm_rS X h (c_MD_greatest l D cI cZ ad ((ms_hi u (f))) ((ms_hi u (x))) u  _) ks_MD_greatest kw_705 rfl rfl ⟨by decide, by decide⟩ rfl hl.1 rfl (Nat.le_of_ble_eq_true rfl) d_MD_call_48 ⟨by decide, by decide⟩) (fun H locs h => ?_)
      refine lv_iadd hx hb d_MD_call_51 ?_
      refine tm_cIf X h (tm_rV (q0 := 0) X h (c_MD_make l D cI cZ ad (n) (1) (3) (f) (x) (0) (((ms_fr u (f)) ||| (ms_fr u (x)))) ((1 + (ms_gr ((ms_hi u (f))) ((ms_hi u (x)))))) u (hn) (hn2) _) ki_MD_make kw_674 rfl rfl rfl rfl rfl ⟨by decide, by decide⟩ rfl hl.1 rfl (Nat.le_of_ble_eq_true rfl) d_MD_call_52 ⟨by decide, by decide⟩) (fun H locs h => ?_)
      exact tm_iret (w := tm_wM ad cI cZ) (u := (ms_mkU u (n) (1) (3) (f) (x) (0) (((ms_fr u (f)) ||| (ms_fr u (x)))) ((1 + (ms_gr ((ms_hi u (f))) ((ms_hi u (x)))))))) X h (by unfold ms_calU; rw [show ms_cg u f x = 1 from if_neg (fun q => q.elim (fun q => h6f (tm_ite0.mpr q)) (fun q => h14f (tm_ite0.mpr q)))]; exact ⟨rfl, rfl⟩) d_MD_call_55
theorem d_MD_operation_0 : decode b_MD_operation 0 = .ok (.iload_n 1, 1) := by decide +kernel
theorem d_MD_operation_1 : decode b_MD_operation 1 = .ok (.ifCond .lt 28, 3) := by decide +kernel
theorem d_MD_operation_4 : decode b_MD_operation 4 = .ok (.iload_n 1, 1) := by decide +kernel
theorem d_MD_operation_5 : decode b_MD_operation 5 = .ok (.iconst 4, 1) := by decide +kernel
theorem d_MD_operation_6 : decode b_MD_operation 6 = .ok (.if_icmp .ge 23, 3) := by decide +kernel
theorem d_MD_operation_9 : decode b_MD_operation 9 = .ok (.aload_n 0, 1) := by decide +kernel
theorem d_MD_operation_10 : decode b_MD_operation 10 = .ok (.iload_n 2, 1) := by decide +kernel
theorem d_MD_operation_11 : decode b_MD_operation 11 = .ok (.invokevirtual 69, 3) := by decide +kernel
theorem d_MD_operation_14 : decode b_MD_operation 14 = .ok (.ifCond .eq 15, 3) := by decide +kernel
theorem d_MD_operation_17 : decode b_MD_operation 17 = .ok (.aload_n 0, 1) := by decide +kernel
theorem d_MD_operation_18 : decode b_MD_operation 18 = .ok (.iload_n 3, 1) := by decide +kernel
theorem d_MD_operation_19 : decode b_MD_operation 19 = .ok (.invokevirtual 69, 3) := by decide +kernel
theorem d_MD_operation_22 : decode b_MD_operation 22 = .ok (.ifCond .eq 7, 3) := by decide +kernel
theorem d_MD_operation_25 : decode b_MD_operation 25 = .ok (.iconst 1, 1) := by decide +kernel
theorem d_MD_operation_26 : decode b_MD_operation 26 = .ok (.goto 4, 3) := by decide +kernel
theorem d_MD_operation_29 : decode b_MD_operation 29 = .ok (.iconst 0, 1) := by decide +kernel
theorem d_MD_operation_30 : decode b_MD_operation 30 = .ok (.istore 4, 2) := by decide +kernel
theorem d_MD_operation_32 : decode b_MD_operation 32 = .ok (.aload_n 0, 1) := by decide +kernel
theorem d_MD_operation_33 : decode b_MD_operation 33 = .ok (.iload 4, 2) := by decide +kernel
theorem d_MD_operation_35 : decode b_MD_operation 35 = .ok (.iconst 4, 1) := by decide +kernel
theorem d_MD_operation_36 : decode b_MD_operation 36 = .ok (.iload_n 2, 1) := by decide +kernel
theorem d_MD_operation_37 : decode b_MD_operation 37 = .ok (.iload_n 3, 1) := by decide +kernel
theorem d_MD_operation_38 : decode b_MD_operation 38 = .ok (.iload_n 1, 1) := by decide +kernel
theorem d_MD_operation_39 : decode b_MD_operation 39 = .ok (.aload_n 0, 1) := by decide +kernel
theorem d_MD_operation_40 : decode b_MD_operation 40 = .ok (.iload_n 2, 1) := by decide +kernel
theorem d_MD_operation_41 : decode b_MD_operation 41 = .ok (.invokevirtual 80, 3) := by decide +kernel
theorem d_MD_operation_44 : decode b_MD_operation 44 = .ok (.aload_n 0, 1) := by decide +kernel
theorem d_MD_operation_45 : decode b_MD_operation 45 = .ok (.iload_n 3, 1) := by decide +kernel
theorem d_MD_operation_46 : decode b_MD_operation 46 = .ok (.invokevirtual 80, 3) := by decide +kernel
theorem d_MD_operation_49 : decode b_MD_operation 49 = .ok (.ior, 1) := by decide +kernel
theorem d_MD_operation_50 : decode b_MD_operation 50 = .ok (.iconst 1, 1) := by decide +kernel
theorem d_MD_operation_51 : decode b_MD_operation 51 = .ok (.aload_n 0, 1) := by decide +kernel
theorem d_MD_operation_52 : decode b_MD_operation 52 = .ok (.iload_n 2, 1) := by decide +kernel
theorem d_MD_operation_53 : decode b_MD_operation 53 = .ok (.invokevirtual 84, 3) := by decide +kernel
theorem d_MD_operation_56 : decode b_MD_operation 56 = .ok (.aload_n 0, 1) := by decide +kernel
theorem d_MD_operation_57 : decode b_MD_operation 57 = .ok (.iload_n 3, 1) := by decide +kernel
theorem d_MD_operation_58 : decode b_MD_operation 58 = .ok (.invokevirtual 84, 3) := by decide +kernel
theorem d_MD_operation_61 : decode b_MD_operation 61 = .ok (.invokestatic 87, 3) := by decide +kernel
theorem d_MD_operation_64 : decode b_MD_operation 64 = .ok (.iadd, 1) := by decide +kernel
theorem d_MD_operation_65 : decode b_MD_operation 65 = .ok (.invokevirtual 73, 3) := by decide +kernel
theorem d_MD_operation_68 : decode b_MD_operation 68 = .ok (.ireturn, 1) := by decide +kernel
set_option maxHeartbeats 4000000 in
set_option maxRecDepth 100000 in
theorem c_MD_operation (l : Launch) (D : va_G) (cI cZ : ClassId) (ad : Nat → Nat) (n : Nat) (o : Int32) (x : Int32) (y : Int32) (u : tm_SC) (hn : u.1 0 = nI n) (hn2 : n ≤ 100) : tm_I l y_MD_operation b_MD_operation 5 .int ({ frames := 2, cells := 0, slots := 0, locals := 50 } : Room) D (tm_yM cI cZ) (tm_wM ad cI cZ) [.ref (ad 0), .int (o), .int (x), .int (y)] u (fun r u' => r = (ms_mkR n (ms_og u o x y) (1 + ms_gr (ms_hi u x) (ms_hi u y))) ∧ u' = (ms_opU u n o x y)) := by
  intro sz
  refine tm_of (Qc := fun A => va_Qi (fun r u' => r = (ms_mkR n (ms_og u o x y) (1 + ms_gr (ms_hi u x) (ms_hi u y))) ∧ u' = (ms_opU u n o x y)) (fun u' t => tm_B D (tm_yM cI cZ) A (tm_wM ad cI cZ u') t) A) (by decide) (Nat.le_of_ble_eq_true rfl) ?_ sz
  intro pg eg sg mg bel met cg A ls X h hl hnm
  have hx := X.1.1
  have hb := X.1.2.1
  have hl : lv_has ls 5 [(0, .ref (ad 0)), (1, .int (o)), (2, .int (x)), (3, .int (y))] := hl
  refine lv_iload_n hx hb d_MD_operation_0 rfl (lv_at hl 1 rfl) ?_
  refine lv_if_lt hx hb d_MD_operation_1 (tgt := 29) rfl (fun h1t => ?_) (fun h1f => ?_)
  · refine lv_iconst (v := 0) hx hb d_MD_operation_29 (by decide) ?_
    refine lv_istore hx hb d_MD_operation_30 hl (by decide) rfl (fun ls (hl : lv_has ls 5 [(4, .int (0)), (0, .ref (ad 0)), (1, .int (o)), (2, .int (x)), (3, .int (y))]) => ?_)
    refine lv_aload_n hx hb d_MD_operation_32 rfl (lv_at hl 1 rfl) ?_
    refine lv_iload hx hb d_MD_operation_33 (lv_at hl 0 rfl) ?_
    refine lv_iconst (v := 4) hx hb d_MD_operation_35 (by decide) ?_
    refine lv_iload_n hx hb d_MD_operation_36 rfl (lv_at hl 3 rfl) ?_
    refine lv_iload_n hx hb d_MD_operation_37 rfl (lv_at hl 4 rfl) ?_
    refine lv_iload_n hx hb d_MD_operation_38 rfl (lv_at hl 2 rfl) ?_
    refine lv_aload_n hx hb d_MD_operation_39 rfl (lv_at hl 1 rfl) ?_
    refine lv_iload_n hx hb d_MD_operation_40 rfl (lv_at hl 3 rfl) ?_
    refine tm_cIf X h (tm_rV (q0 := 0) X h (c_MD_freeOf l D cI cZ ad (n) (x) u (hn) (hn2) _) ki_MD_freeOf kw_693 rfl rfl rfl rfl rfl ⟨by decide, by decide⟩ rfl hl.1 rfl (Nat.le_of_ble_eq_true rfl) d_MD_operation_41 ⟨by decide, by decide⟩) (fun H locs h => ?_)
    refine lv_aload_n hx hb d_MD_operation_44 rfl (lv_at hl 1 rfl) ?_
    refine lv_iload_n hx hb d_MD_operation_45 rfl (lv_at hl 4 rfl) ?_
    refine tm_cIf X h (tm_rV (q0 := 0) X h (c_MD_freeOf l D cI cZ ad (n) (y) u (hn) (hn2) _) ki_MD_freeOf kw_693 rfl rfl rfl rfl rfl ⟨by decide, by decide⟩ rfl hl.1 rfl (Nat.le_of_ble_eq_true rfl) d_MD_operation_46 ⟨by decide, by decide⟩) (fun H locs h => ?_)
    refine lv_ior hx hb d_MD_operation_49 ?_
    refine lv_iconst (v := 1) hx hb d_MD_operation_50 (by decide) ?_
    refine lv_aload_n hx hb d_MD_operation_51 rfl (lv_at hl 1 rfl) ?_
    refine lv_iload_n hx hb d_MD_operation_52 rfl (lv_at hl 3 rfl) ?_
    refine tm_cIf X h (tm_rV (q0 := 0) X h (c_MD_highOf l D cI cZ ad (n) (x) u (hn) (hn2) _) ki_MD_highOf kw_697 rfl rfl rfl rfl rfl ⟨by decide, by decide⟩ rfl hl.1 rfl (Nat.le_of_ble_eq_true rfl) d_MD_operation_53 ⟨by decide, by decide⟩) (fun H locs h => ?_)
    refine lv_aload_n hx hb d_MD_operation_56 rfl (lv_at hl 1 rfl) ?_
    refine lv_iload_n hx hb d_MD_operation_57 rfl (lv_at hl 4 rfl) ?_
    refine tm_cIf X h (tm_rV16 (q0 := 0) X h (c_MD_highOf l D cI cZ ad (n) (y) u (hn) (hn2) _) ki_MD_highOf kw_697 rfl rfl rfl rfl rfl ⟨by decide, by decide⟩ rfl hl.1 rfl (Nat.le_of_ble_eq_true rfl) d_MD_operation_58 ⟨by decide, by decide⟩) (fun H locs h => ?_)
    refine tm_cIf X h (tm_rS X h (c_MD_greatest l D cI cZ ad ((ms_hi u (x))) ((ms_hi u (y))) u  _) ks_MD_greatest kw_705 rfl rfl ⟨by decide, by decide⟩ rfl hl.1 rfl (Nat.le_of_ble_eq_true rfl) d_MD_operation_61 ⟨by decide, by decide⟩) (fun H locs h => ?_)
    refine lv_iadd hx hb d_MD_operation_64 ?_
    refine tm_cIf X h (tm_rV (q0 := 0) X h (c_MD_make l D cI cZ ad (n) (0) (4) (x) (y) (o) (((ms_fr u (x)) ||| (ms_fr u (y)))) ((1 + (ms_gr ((ms_hi u (x))) ((ms_hi u (y)))))) u (hn) (hn2) _) ki_MD_make kw_674 rfl rfl rfl rfl rfl ⟨by decide, by decide⟩ rfl hl.1 rfl (Nat.le_of_ble_eq_true rfl) d_MD_operation_65 ⟨by decide, by decide⟩) (fun H locs h => ?_)
    exact tm_iret (w := tm_wM ad cI cZ) (u := (ms_mkU u (n) (0) (4) (x) (y) (o) (((ms_fr u (x)) ||| (ms_fr u (y)))) ((1 + (ms_gr ((ms_hi u (x))) ((ms_hi u (y)))))))) X h (by unfold ms_opU; rw [show ms_og u o x y = 0 from if_pos (Or.inl h1t)]; exact ⟨rfl, rfl⟩) d_MD_operation_68
  · refine lv_iload_n hx hb d_MD_operation_4 rfl (lv_at hl 1 rfl) ?_
    refine lv_iconst (v := 4) hx hb d_MD_operation_5 (by decide) ?_
    refine lv_icmp_ge hx hb d_MD_operation_6 (tgt := 29) rfl (fun h6t => ?_) (fun h6f => ?_)
    · refine lv_iconst (v := 0) hx hb d_MD_operation_29 (by decide) ?_
      refine lv_istore hx hb d_MD_operation_30 hl (by decide) rfl (fun ls (hl : lv_has ls 5 [(4, .int (0)), (0, .ref (ad 0)), (1, .int (o)), (2, .int (x)), (3, .int (y))]) => ?_)
      refine lv_aload_n hx hb d_MD_operation_32 rfl (lv_at hl 1 rfl) ?_
      refine lv_iload hx hb d_MD_operation_33 (lv_at hl 0 rfl) ?_
      refine lv_iconst (v := 4) hx hb d_MD_operation_35 (by decide) ?_
      refine lv_iload_n hx hb d_MD_operation_36 rfl (lv_at hl 3 rfl) ?_
      refine lv_iload_n hx hb d_MD_operation_37 rfl (lv_at hl 4 rfl) ?_
      refine lv_iload_n hx hb d_MD_operation_38 rfl (lv_at hl 2 rfl) ?_
      refine lv_aload_n hx hb d_MD_operation_39 rfl (lv_at hl 1 rfl) ?_
      refine lv_iload_n hx hb d_MD_operation_40 rfl (lv_at hl 3 rfl) ?_
      refine tm_cIf X h (tm_rV (q0 := 0) X h (c_MD_freeOf l D cI cZ ad (n) (x) u (hn) (hn2) _) ki_MD_freeOf kw_693 rfl rfl rfl rfl rfl ⟨by decide, by decide⟩ rfl hl.1 rfl (Nat.le_of_ble_eq_true rfl) d_MD_operation_41 ⟨by decide, by decide⟩) (fun H locs h => ?_)
      refine lv_aload_n hx hb d_MD_operation_44 rfl (lv_at hl 1 rfl) ?_
      refine lv_iload_n hx hb d_MD_operation_45 rfl (lv_at hl 4 rfl) ?_
      refine tm_cIf X h (tm_rV (q0 := 0) X h (c_MD_freeOf l D cI cZ ad (n) (y) u (hn) (hn2) _) ki_MD_freeOf kw_693 rfl rfl rfl rfl rfl ⟨by decide, by decide⟩ rfl hl.1 rfl (Nat.le_of_ble_eq_true rfl) d_MD_operation_46 ⟨by decide, by decide⟩) (fun H locs h => ?_)
      refine lv_ior hx hb d_MD_operation_49 ?_
      refine lv_iconst (v := 1) hx hb d_MD_operation_50 (by decide) ?_
      refine lv_aload_n hx hb d_MD_operation_51 rfl (lv_at hl 1 rfl) ?_
      refine lv_iload_n hx hb d_MD_operation_52 rfl (lv_at hl 3 rfl) ?_
      refine tm_cIf X h (tm_rV (q0 := 0) X h (c_MD_highOf l D cI cZ ad (n) (x) u (hn) (hn2) _) ki_MD_highOf kw_697 rfl rfl rfl rfl rfl ⟨by decide, by decide⟩ rfl hl.1 rfl (Nat.le_of_ble_eq_true rfl) d_MD_operation_53 ⟨by decide, by decide⟩) (fun H locs h => ?_)
      refine lv_aload_n hx hb d_MD_operation_56 rfl (lv_at hl 1 rfl) ?_
      refine lv_iload_n hx hb d_MD_operation_57 rfl (lv_at hl 4 rfl) ?_
      refine tm_cIf X h (tm_rV16 (q0 := 0) X h (c_MD_highOf l D cI cZ ad (n) (y) u (hn) (hn2) _) ki_MD_highOf kw_697 rfl rfl rfl rfl rfl ⟨by decide, by decide⟩ rfl hl.1 rfl (Nat.le_of_ble_eq_true rfl) d_MD_operation_58 ⟨by decide, by decide⟩) (fun H locs h => ?_)
      refine tm_cIf X h (tm_rS X h (c_MD_greatest l D cI cZ ad ((ms_hi u (x))) ((ms_hi u (y))) u  _) ks_MD_greatest kw_705 rfl rfl ⟨by decide, by decide⟩ rfl hl.1 rfl (Nat.le_of_ble_eq_true rfl) d_MD_operation_61 ⟨by decide, by decide⟩) (fun H locs h => ?_)
      refine lv_iadd hx hb d_MD_operation_64 ?_
      refine tm_cIf X h (tm_rV (q0 := 0) X h (c_MD_make l D cI cZ ad (n) (0) (4) (x) (y) (o) (((ms_fr u (x)) ||| (ms_fr u (y)))) ((1 + (ms_gr ((ms_hi u (x))) ((ms_hi u (y)))))) u (hn) (hn2) _) ki_MD_make kw_674 rfl rfl rfl rfl rfl ⟨by decide, by decide⟩ rfl hl.1 rfl (Nat.le_of_ble_eq_true rfl) d_MD_operation_65 ⟨by decide, by decide⟩) (fun H locs h => ?_)
      exact tm_iret (w := tm_wM ad cI cZ) (u := (ms_mkU u (n) (0) (4) (x) (y) (o) (((ms_fr u (x)) ||| (ms_fr u (y)))) ((1 + (ms_gr ((ms_hi u (x))) ((ms_hi u (y)))))))) X h (by unfold ms_opU; rw [show ms_og u o x y = 0 from if_pos (Or.inr (Or.inl h6t))]; exact ⟨rfl, rfl⟩) d_MD_operation_68
    · refine lv_aload_n hx hb d_MD_operation_9 rfl (lv_at hl 0 rfl) ?_
      refine lv_iload_n hx hb d_MD_operation_10 rfl (lv_at hl 2 rfl) ?_
      refine tm_cIf X h (tm_rV (q0 := 0) X h (c_MD_isPart l D cI cZ ad (x) u  _) ki_MD_isPart kw_689 rfl rfl rfl rfl rfl ⟨by decide, by decide⟩ rfl hl.1 rfl (Nat.le_of_ble_eq_true rfl) d_MD_operation_11 ⟨by decide, by decide⟩) (fun H locs h => ?_)
      refine lv_if_eq hx hb d_MD_operation_14 (tgt := 29) rfl (fun h14t => ?_) (fun h14f => ?_)
      · refine lv_iconst (v := 0) hx hb d_MD_operation_29 (by decide) ?_
        refine lv_istore hx hb d_MD_operation_30 hl (by decide) rfl (fun ls (hl : lv_has ls 5 [(4, .int (0)), (0, .ref (ad 0)), (1, .int (o)), (2, .int (x)), (3, .int (y))]) => ?_)
        refine lv_aload_n hx hb d_MD_operation_32 rfl (lv_at hl 1 rfl) ?_
        refine lv_iload hx hb d_MD_operation_33 (lv_at hl 0 rfl) ?_
        refine lv_iconst (v := 4) hx hb d_MD_operation_35 (by decide) ?_
        refine lv_iload_n hx hb d_MD_operation_36 rfl (lv_at hl 3 rfl) ?_
        refine lv_iload_n hx hb d_MD_operation_37 rfl (lv_at hl 4 rfl) ?_
        refine lv_iload_n hx hb d_MD_operation_38 rfl (lv_at hl 2 rfl) ?_
        refine lv_aload_n hx hb d_MD_operation_39 rfl (lv_at hl 1 rfl) ?_
        refine lv_iload_n hx hb d_MD_operation_40 rfl (lv_at hl 3 rfl) ?_
        refine tm_cIf X h (tm_rV (q0 := 0) X h (c_MD_freeOf l D cI cZ ad (n) (x) u (hn) (hn2) _) ki_MD_freeOf kw_693 rfl rfl rfl rfl rfl ⟨by decide, by decide⟩ rfl hl.1 rfl (Nat.le_of_ble_eq_true rfl) d_MD_operation_41 ⟨by decide, by decide⟩) (fun H locs h => ?_)
        refine lv_aload_n hx hb d_MD_operation_44 rfl (lv_at hl 1 rfl) ?_
        refine lv_iload_n hx hb d_MD_operation_45 rfl (lv_at hl 4 rfl) ?_
        refine tm_cIf X h (tm_rV (q0 := 0) X h (c_MD_freeOf l D cI cZ ad (n) (y) u (hn) (hn2) _) ki_MD_freeOf kw_693 rfl rfl rfl rfl rfl ⟨by decide, by decide⟩ rfl hl.1 rfl (Nat.le_of_ble_eq_true rfl) d_MD_operation_46 ⟨by decide, by decide⟩) (fun H locs h => ?_)
        refine lv_ior hx hb d_MD_operation_49 ?_
        refine lv_iconst (v := 1) hx hb d_MD_operation_50 (by decide) ?_
        refine lv_aload_n hx hb d_MD_operation_51 rfl (lv_at hl 1 rfl) ?_
        refine lv_iload_n hx hb d_MD_operation_52 rfl (lv_at hl 3 rfl) ?_
        refine tm_cIf X h (tm_rV (q0 := 0) X h (c_MD_highOf l D cI cZ ad (n) (x) u (hn) (hn2) _) ki_MD_highOf kw_697 rfl rfl rfl rfl rfl ⟨by decide, by decide⟩ rfl hl.1 rfl (Nat.le_of_ble_eq_true rfl) d_MD_operation_53 ⟨by decide, by decide⟩) (fun H locs h => ?_)
        refine lv_aload_n hx hb d_MD_operation_56 rfl (lv_at hl 1 rfl) ?_
        refine lv_iload_n hx hb d_MD_operation_57 rfl (lv_at hl 4 rfl) ?_
        refine tm_cIf X h (tm_rV16 (q0 := 0) X h (c_MD_highOf l D cI cZ ad (n) (y) u (hn) (hn2) _) ki_MD_highOf kw_697 rfl rfl rfl rfl rfl ⟨by decide, by decide⟩ rfl hl.1 rfl (Nat.le_of_ble_eq_true rfl) d_MD_operation_58 ⟨by decide, by decide⟩) (fun H locs h => ?_)
        refine tm_cIf X h (tm_rS X h (c_MD_greatest l D cI cZ ad ((ms_hi u (x))) ((ms_hi u (y))) u  _) ks_MD_greatest kw_705 rfl rfl ⟨by decide, by decide⟩ rfl hl.1 rfl (Nat.le_of_ble_eq_true rfl) d_MD_operation_61 ⟨by decide, by decide⟩) (fun H locs h => ?_)
        refine lv_iadd hx hb d_MD_operation_64 ?_
        refine tm_cIf X h (tm_rV (q0 := 0) X h (c_MD_make l D cI cZ ad (n) (0) (4) (x) (y) (o) (((ms_fr u (x)) ||| (ms_fr u (y)))) ((1 + (ms_gr ((ms_hi u (x))) ((ms_hi u (y)))))) u (hn) (hn2) _) ki_MD_make kw_674 rfl rfl rfl rfl rfl ⟨by decide, by decide⟩ rfl hl.1 rfl (Nat.le_of_ble_eq_true rfl) d_MD_operation_65 ⟨by decide, by decide⟩) (fun H locs h => ?_)
        exact tm_iret (w := tm_wM ad cI cZ) (u := (ms_mkU u (n) (0) (4) (x) (y) (o) (((ms_fr u (x)) ||| (ms_fr u (y)))) ((1 + (ms_gr ((ms_hi u (x))) ((ms_hi u (y)))))))) X h (by unfold ms_opU; rw [show ms_og u o x y = 0 from if_pos (Or.inr (Or.inr (Or.inl (tm_ite0.mp h14t))))]; exact ⟨rfl, rfl⟩) d_MD_operation_68
      · refine lv_aload_n hx hb d_MD_operation_17 rfl (lv_at hl 0 rfl) ?_
        refine lv_iload_n hx hb d_MD_operation_18 rfl (lv_at hl 3 rfl) ?_
        refine tm_cIf X h (tm_rV (q0 := 0) X h (c_MD_isPart l D cI cZ ad (y) u  _) ki_MD_isPart kw_689 rfl rfl rfl rfl rfl ⟨by decide, by decide⟩ rfl hl.1 rfl (Nat.le_of_ble_eq_true rfl) d_MD_operation_19 ⟨by decide, by decide⟩) (fun H locs h => ?_)
        refine lv_if_eq hx hb d_MD_operation_22 (tgt := 29) rfl (fun h22t => ?_) (fun h22f => ?_)
        · refine lv_iconst (v := 0) hx hb d_MD_operation_29 (by decide) ?_
          refine lv_istore hx hb d_MD_operation_30 hl (by decide) rfl (fun ls (hl : lv_has ls 5 [(4, .int (0)), (0, .ref (ad 0)), (1, .int (o)), (2, .int (x)), (3, .int (y))]) => ?_)
          refine lv_aload_n hx hb d_MD_operation_32 rfl (lv_at hl 1 rfl) ?_
          refine lv_iload hx hb d_MD_operation_33 (lv_at hl 0 rfl) ?_
          refine lv_iconst (v := 4) hx hb d_MD_operation_35 (by decide) ?_
          refine lv_iload_n hx hb d_MD_operation_36 rfl (lv_at hl 3 rfl) ?_
          refine lv_iload_n hx hb d_MD_operation_37 rfl (lv_at hl 4 rfl) ?_
          refine lv_iload_n hx hb d_MD_operation_38 rfl (lv_at hl 2 rfl) ?_
          refine lv_aload_n hx hb d_MD_operation_39 rfl (lv_at hl 1 rfl) ?_
          refine lv_iload_n hx hb d_MD_operation_40 rfl (lv_at hl 3 rfl) ?_
          refine tm_cIf X h (tm_rV (q0 := 0) X h (c_MD_freeOf l D cI cZ ad (n) (x) u (hn) (hn2) _) ki_MD_freeOf kw_693 rfl rfl rfl rfl rfl ⟨by decide, by decide⟩ rfl hl.1 rfl (Nat.le_of_ble_eq_true rfl) d_MD_operation_41 ⟨by decide, by decide⟩) (fun H locs h => ?_)
          refine lv_aload_n hx hb d_MD_operation_44 rfl (lv_at hl 1 rfl) ?_
          refine lv_iload_n hx hb d_MD_operation_45 rfl (lv_at hl 4 rfl) ?_
          refine tm_cIf X h (tm_rV (q0 := 0) X h (c_MD_freeOf l D cI cZ ad (n) (y) u (hn) (hn2) _) ki_MD_freeOf kw_693 rfl rfl rfl rfl rfl ⟨by decide, by decide⟩ rfl hl.1 rfl (Nat.le_of_ble_eq_true rfl) d_MD_operation_46 ⟨by decide, by decide⟩) (fun H locs h => ?_)
          refine lv_ior hx hb d_MD_operation_49 ?_
          refine lv_iconst (v := 1) hx hb d_MD_operation_50 (by decide) ?_
          refine lv_aload_n hx hb d_MD_operation_51 rfl (lv_at hl 1 rfl) ?_
          refine lv_iload_n hx hb d_MD_operation_52 rfl (lv_at hl 3 rfl) ?_
          refine tm_cIf X h (tm_rV (q0 := 0) X h (c_MD_highOf l D cI cZ ad (n) (x) u (hn) (hn2) _) ki_MD_highOf kw_697 rfl rfl rfl rfl rfl ⟨by decide, by decide⟩ rfl hl.1 rfl (Nat.le_of_ble_eq_true rfl) d_MD_operation_53 ⟨by decide, by decide⟩) (fun H locs h => ?_)
          refine lv_aload_n hx hb d_MD_operation_56 rfl (lv_at hl 1 rfl) ?_
          refine lv_iload_n hx hb d_MD_operation_57 rfl (lv_at hl 4 rfl) ?_
          refine tm_cIf X h (tm_rV16 (q0 := 0) X h (c_MD_highOf l D cI cZ ad (n) (y) u (hn) (hn2) _) ki_MD_highOf kw_697 rfl rfl rfl rfl rfl ⟨by decide, by decide⟩ rfl hl.1 rfl (Nat.le_of_ble_eq_true rfl) d_MD_operation_58 ⟨by decide, by decide⟩) (fun H locs h => ?_)
          refine tm_cIf X h (tm_rS X h (c_MD_greatest l D cI cZ ad ((ms_hi u (x))) ((ms_hi u (y))) u  _) ks_MD_greatest kw_705 rfl rfl ⟨by decide, by decide⟩ rfl hl.1 rfl (Nat.le_of_ble_eq_true rfl) d_MD_operation_61 ⟨by decide, by decide⟩) (fun H locs h => ?_)
          refine lv_iadd hx hb d_MD_operation_64 ?_
          refine tm_cIf X h (tm_rV (q0 := 0) X h (c_MD_make l D cI cZ ad (n) (0) (4) (x) (y) (o) (((ms_fr u (x)) ||| (ms_fr u (y)))) ((1 + (ms_gr ((ms_hi u (x))) ((ms_hi u (y)))))) u (hn) (hn2) _) ki_MD_make kw_674 rfl rfl rfl rfl rfl ⟨by decide, by decide⟩ rfl hl.1 rfl (Nat.le_of_ble_eq_true rfl) d_MD_operation_65 ⟨by decide, by decide⟩) (fun H locs h => ?_)
          exact tm_iret (w := tm_wM ad cI cZ) (u := (ms_mkU u (n) (0) (4) (x) (y) (o) (((ms_fr u (x)) ||| (ms_fr u (y)))) ((1 + (ms_gr ((ms_hi u (x))) ((ms_hi u (y)))))))) X h (by unfold ms_opU; rw [show ms_og u o x y = 0 from if_pos (Or.inr (Or.inr (Or.inr (tm_ite0.mp h22t))))]; exact ⟨rfl, rfl⟩) d_MD_operation_68
        · refine lv_iconst (v := 1) hx hb d_MD_operation_25 (by decide) ?_
          refine lv_goto hx hb d_MD_operation_26 (tgt := 30) rfl ?_
          refine lv_istore hx hb d_MD_operation_30 hl (by decide) rfl (fun ls (hl : lv_has ls 5 [(4, .int (1)), (0, .ref (ad 0)), (1, .int (o)), (2, .int (x)), (3, .int (y))]) => ?_)
          refine lv_aload_n hx hb d_MD_operation_32 rfl (lv_at hl 1 rfl) ?_
          refine lv_iload hx hb d_MD_operation_33 (lv_at hl 0 rfl) ?_
          refine lv_iconst (v := 4) hx hb d_MD_operation_35 (by decide) ?_
          refine lv_iload_n hx hb d_MD_operation_36 rfl (lv_at hl 3 rfl) ?_
          refine lv_iload_n hx hb d_MD_operation_37 rfl (lv_at hl 4 rfl) ?_
          refine lv_iload_n hx hb d_MD_operation_38 rfl (lv_at hl 2 rfl) ?_
          refine lv_aload_n hx hb d_MD_operation_39 rfl (lv_at hl 1 rfl) ?_
          refine lv_iload_n hx hb d_MD_operation_40 rfl (lv_at hl 3 rfl) ?_
          refine tm_cIf X h (tm_rV (q0 := 0) X h (c_MD_freeOf l D cI cZ ad (n) (x) u (hn) (hn2) _) ki_MD_freeOf kw_693 rfl rfl rfl rfl rfl ⟨by decide, by decide⟩ rfl hl.1 rfl (Nat.le_of_ble_eq_true rfl) d_MD_operation_41 ⟨by decide, by decide⟩) (fun H locs h => ?_)
          refine lv_aload_n hx hb d_MD_operation_44 rfl (lv_at hl 1 rfl) ?_
          refine lv_iload_n hx hb d_MD_operation_45 rfl (lv_at hl 4 rfl) ?_
          refine tm_cIf X h (tm_rV (q0 := 0) X h (c_MD_freeOf l D cI cZ ad (n) (y) u (hn) (hn2) _) ki_MD_freeOf kw_693 rfl rfl rfl rfl rfl ⟨by decide, by decide⟩ rfl hl.1 rfl (Nat.le_of_ble_eq_true rfl) d_MD_operation_46 ⟨by decide, by decide⟩) (fun H locs h => ?_)
          refine lv_ior hx hb d_MD_operation_49 ?_
          refine lv_iconst (v := 1) hx hb d_MD_operation_50 (by decide) ?_
          refine lv_aload_n hx hb d_MD_operation_51 rfl (lv_at hl 1 rfl) ?_
          refine lv_iload_n hx hb d_MD_operation_52 rfl (lv_at hl 3 rfl) ?_
          refine tm_cIf X h (tm_rV (q0 := 0) X h (c_MD_highOf l D cI cZ ad (n) (x) u (hn) (hn2) _) ki_MD_highOf kw_697 rfl rfl rfl rfl rfl ⟨by decide, by decide⟩ rfl hl.1 rfl (Nat.le_of_ble_eq_true rfl) d_MD_operation_53 ⟨by decide, by decide⟩) (fun H locs h => ?_)
          refine lv_aload_n hx hb d_MD_operation_56 rfl (lv_at hl 1 rfl) ?_
          refine lv_iload_n hx hb d_MD_operation_57 rfl (lv_at hl 4 rfl) ?_
          refine tm_cIf X h (tm_rV16 (q0 := 0) X h (c_MD_highOf l D cI cZ ad (n) (y) u (hn) (hn2) _) ki_MD_highOf kw_697 rfl rfl rfl rfl rfl ⟨by decide, by decide⟩ rfl hl.1 rfl (Nat.le_of_ble_eq_true rfl) d_MD_operation_58 ⟨by decide, by decide⟩) (fun H locs h => ?_)
          refine tm_cIf X h (tm_rS X h (c_MD_greatest l D cI cZ ad ((ms_hi u (x))) ((ms_hi u (y))) u  _) ks_MD_greatest kw_705 rfl rfl ⟨by decide, by decide⟩ rfl hl.1 rfl (Nat.le_of_ble_eq_true rfl) d_MD_operation_61 ⟨by decide, by decide⟩) (fun H locs h => ?_)
          refine lv_iadd hx hb d_MD_operation_64 ?_
          refine tm_cIf X h (tm_rV (q0 := 0) X h (c_MD_make l D cI cZ ad (n) (1) (4) (x) (y) (o) (((ms_fr u (x)) ||| (ms_fr u (y)))) ((1 + (ms_gr ((ms_hi u (x))) ((ms_hi u (y)))))) u (hn) (hn2) _) ki_MD_make kw_674 rfl rfl rfl rfl rfl ⟨by decide, by decide⟩ rfl hl.1 rfl (Nat.le_of_ble_eq_true rfl) d_MD_operation_65 ⟨by decide, by decide⟩) (fun H locs h => ?_)
          exact tm_iret (w := tm_wM ad cI cZ) (u := (ms_mkU u (n) (1) (4) (x) (y) (o) (((ms_fr u (x)) ||| (ms_fr u (y)))) ((1 + (ms_gr ((ms_hi u (x))) ((ms_hi u (y)))))))) X h (by unfold ms_opU; rw [show ms_og u o x y = 1 from if_neg (fun q => q.elim h1f (fun q => q.elim h6f (fun q => q.elim (fun q => h14f (tm_ite0.mpr q)) (fun q => h22f (tm_ite0.mpr q)))))]; exact ⟨rfl, rfl⟩) d_MD_operation_68
theorem d_MD_choice_0 : decode b_MD_choice 0 = .ok (.aload_n 0, 1) := by decide +kernel
theorem d_MD_choice_1 : decode b_MD_choice 1 = .ok (.iload_n 1, 1) := by decide +kernel
theorem d_MD_choice_2 : decode b_MD_choice 2 = .ok (.invokevirtual 69, 3) := by decide +kernel
theorem d_MD_choice_5 : decode b_MD_choice 5 = .ok (.ifCond .eq 23, 3) := by decide +kernel
theorem d_MD_choice_8 : decode b_MD_choice 8 = .ok (.aload_n 0, 1) := by decide +kernel
theorem d_MD_choice_9 : decode b_MD_choice 9 = .ok (.iload_n 2, 1) := by decide +kernel
theorem d_MD_choice_10 : decode b_MD_choice 10 = .ok (.invokevirtual 69, 3) := by decide +kernel
theorem d_MD_choice_13 : decode b_MD_choice 13 = .ok (.ifCond .eq 15, 3) := by decide +kernel
theorem d_MD_choice_16 : decode b_MD_choice 16 = .ok (.aload_n 0, 1) := by decide +kernel
theorem d_MD_choice_17 : decode b_MD_choice 17 = .ok (.iload_n 3, 1) := by decide +kernel
theorem d_MD_choice_18 : decode b_MD_choice 18 = .ok (.invokevirtual 69, 3) := by decide +kernel
theorem d_MD_choice_21 : decode b_MD_choice 21 = .ok (.ifCond .eq 7, 3) := by decide +kernel
theorem d_MD_choice_24 : decode b_MD_choice 24 = .ok (.iconst 1, 1) := by decide +kernel
theorem d_MD_choice_25 : decode b_MD_choice 25 = .ok (.goto 4, 3) := by decide +kernel
theorem d_MD_choice_28 : decode b_MD_choice 28 = .ok (.iconst 0, 1) := by decide +kernel
theorem d_MD_choice_29 : decode b_MD_choice 29 = .ok (.istore 4, 2) := by decide +kernel
theorem d_MD_choice_31 : decode b_MD_choice 31 = .ok (.aload_n 0, 1) := by decide +kernel
theorem d_MD_choice_32 : decode b_MD_choice 32 = .ok (.iload 4, 2) := by decide +kernel
theorem d_MD_choice_34 : decode b_MD_choice 34 = .ok (.iconst 5, 1) := by decide +kernel
theorem d_MD_choice_35 : decode b_MD_choice 35 = .ok (.iload_n 1, 1) := by decide +kernel
theorem d_MD_choice_36 : decode b_MD_choice 36 = .ok (.iload_n 2, 1) := by decide +kernel
theorem d_MD_choice_37 : decode b_MD_choice 37 = .ok (.iload_n 3, 1) := by decide +kernel
theorem d_MD_choice_38 : decode b_MD_choice 38 = .ok (.aload_n 0, 1) := by decide +kernel
theorem d_MD_choice_39 : decode b_MD_choice 39 = .ok (.iload_n 1, 1) := by decide +kernel
theorem d_MD_choice_40 : decode b_MD_choice 40 = .ok (.invokevirtual 80, 3) := by decide +kernel
theorem d_MD_choice_43 : decode b_MD_choice 43 = .ok (.aload_n 0, 1) := by decide +kernel
theorem d_MD_choice_44 : decode b_MD_choice 44 = .ok (.iload_n 2, 1) := by decide +kernel
theorem d_MD_choice_45 : decode b_MD_choice 45 = .ok (.invokevirtual 80, 3) := by decide +kernel
theorem d_MD_choice_48 : decode b_MD_choice 48 = .ok (.ior, 1) := by decide +kernel
theorem d_MD_choice_49 : decode b_MD_choice 49 = .ok (.aload_n 0, 1) := by decide +kernel
theorem d_MD_choice_50 : decode b_MD_choice 50 = .ok (.iload_n 3, 1) := by decide +kernel
theorem d_MD_choice_51 : decode b_MD_choice 51 = .ok (.invokevirtual 80, 3) := by decide +kernel
theorem d_MD_choice_54 : decode b_MD_choice 54 = .ok (.ior, 1) := by decide +kernel
theorem d_MD_choice_55 : decode b_MD_choice 55 = .ok (.iconst 1, 1) := by decide +kernel
theorem d_MD_choice_56 : decode b_MD_choice 56 = .ok (.aload_n 0, 1) := by decide +kernel
theorem d_MD_choice_57 : decode b_MD_choice 57 = .ok (.iload_n 1, 1) := by decide +kernel
theorem d_MD_choice_58 : decode b_MD_choice 58 = .ok (.invokevirtual 84, 3) := by decide +kernel
theorem d_MD_choice_61 : decode b_MD_choice 61 = .ok (.aload_n 0, 1) := by decide +kernel
theorem d_MD_choice_62 : decode b_MD_choice 62 = .ok (.iload_n 2, 1) := by decide +kernel
theorem d_MD_choice_63 : decode b_MD_choice 63 = .ok (.invokevirtual 84, 3) := by decide +kernel
theorem d_MD_choice_66 : decode b_MD_choice 66 = .ok (.aload_n 0, 1) := by decide +kernel
theorem d_MD_choice_67 : decode b_MD_choice 67 = .ok (.iload_n 3, 1) := by decide +kernel
theorem d_MD_choice_68 : decode b_MD_choice 68 = .ok (.invokevirtual 84, 3) := by decide +kernel
theorem d_MD_choice_71 : decode b_MD_choice 71 = .ok (.invokestatic 87, 3) := by decide +kernel
theorem d_MD_choice_74 : decode b_MD_choice 74 = .ok (.invokestatic 87, 3) := by decide +kernel
theorem d_MD_choice_77 : decode b_MD_choice 77 = .ok (.iadd, 1) := by decide +kernel
theorem d_MD_choice_78 : decode b_MD_choice 78 = .ok (.invokevirtual 73, 3) := by decide +kernel
theorem d_MD_choice_81 : decode b_MD_choice 81 = .ok (.ireturn, 1) := by decide +kernel
set_option maxHeartbeats 4000000 in
set_option maxRecDepth 100000 in
theorem c_MD_choice (l : Launch) (D : va_G) (cI cZ : ClassId) (ad : Nat → Nat) (n : Nat) (c : Int32) (a : Int32) (b : Int32) (u : tm_SC) (hn : u.1 0 = nI n) (hn2 : n ≤ 100) : tm_I l y_MD_choice b_MD_choice 5 .int ({ frames := 2, cells := 0, slots := 0, locals := 50 } : Room) D (tm_yM cI cZ) (tm_wM ad cI cZ) [.ref (ad 0), .int (c), .int (a), .int (b)] u (fun r u' => r = (ms_mkR n (ms_hg u c a b) (1 + ms_gr (ms_hi u c) (ms_gr (ms_hi u a) (ms_hi u b)))) ∧ u' = (ms_choU u n c a b)) := by
  intro sz
  refine tm_of (Qc := fun A => va_Qi (fun r u' => r = (ms_mkR n (ms_hg u c a b) (1 + ms_gr (ms_hi u c) (ms_gr (ms_hi u a) (ms_hi u b)))) ∧ u' = (ms_choU u n c a b)) (fun u' t => tm_B D (tm_yM cI cZ) A (tm_wM ad cI cZ u') t) A) (by decide) (Nat.le_of_ble_eq_true rfl) ?_ sz
  intro pg eg sg mg bel met cg A ls X h hl hnm
  have hx := X.1.1
  have hb := X.1.2.1
  have hl : lv_has ls 5 [(0, .ref (ad 0)), (1, .int (c)), (2, .int (a)), (3, .int (b))] := hl
  refine lv_aload_n hx hb d_MD_choice_0 rfl (lv_at hl 0 rfl) ?_
  refine lv_iload_n hx hb d_MD_choice_1 rfl (lv_at hl 1 rfl) ?_
  refine tm_cIf X h (tm_rV (q0 := 0) X h (c_MD_isPart l D cI cZ ad (c) u  _) ki_MD_isPart kw_689 rfl rfl rfl rfl rfl ⟨by decide, by decide⟩ rfl hl.1 rfl (Nat.le_of_ble_eq_true rfl) d_MD_choice_2 ⟨by decide, by decide⟩) (fun H locs h => ?_)
  refine lv_if_eq hx hb d_MD_choice_5 (tgt := 28) rfl (fun h5t => ?_) (fun h5f => ?_)
  · refine lv_iconst (v := 0) hx hb d_MD_choice_28 (by decide) ?_
    refine lv_istore hx hb d_MD_choice_29 hl (by decide) rfl (fun ls (hl : lv_has ls 5 [(4, .int (0)), (0, .ref (ad 0)), (1, .int (c)), (2, .int (a)), (3, .int (b))]) => ?_)
    refine lv_aload_n hx hb d_MD_choice_31 rfl (lv_at hl 1 rfl) ?_
    refine lv_iload hx hb d_MD_choice_32 (lv_at hl 0 rfl) ?_
    refine lv_iconst (v := 5) hx hb d_MD_choice_34 (by decide) ?_
    refine lv_iload_n hx hb d_MD_choice_35 rfl (lv_at hl 2 rfl) ?_
    refine lv_iload_n hx hb d_MD_choice_36 rfl (lv_at hl 3 rfl) ?_
    refine lv_iload_n hx hb d_MD_choice_37 rfl (lv_at hl 4 rfl) ?_
    refine lv_aload_n hx hb d_MD_choice_38 rfl (lv_at hl 1 rfl) ?_
    refine lv_iload_n hx hb d_MD_choice_39 rfl (lv_at hl 2 rfl) ?_
    refine tm_cIf X h (tm_rV (q0 := 0) X h (c_MD_freeOf l D cI cZ ad (n) (c) u (hn) (hn2) _) ki_MD_freeOf kw_693 rfl rfl rfl rfl rfl ⟨by decide, by decide⟩ rfl hl.1 rfl (Nat.le_of_ble_eq_true rfl) d_MD_choice_40 ⟨by decide, by decide⟩) (fun H locs h => ?_)
    refine lv_aload_n hx hb d_MD_choice_43 rfl (lv_at hl 1 rfl) ?_
    refine lv_iload_n hx hb d_MD_choice_44 rfl (lv_at hl 3 rfl) ?_
    refine tm_cIf X h (tm_rV (q0 := 0) X h (c_MD_freeOf l D cI cZ ad (n) (a) u (hn) (hn2) _) ki_MD_freeOf kw_693 rfl rfl rfl rfl rfl ⟨by decide, by decide⟩ rfl hl.1 rfl (Nat.le_of_ble_eq_true rfl) d_MD_choice_45 ⟨by decide, by decide⟩) (fun H locs h => ?_)
    refine lv_ior hx hb d_MD_choice_48 ?_
    refine lv_aload_n hx hb d_MD_choice_49 rfl (lv_at hl 1 rfl) ?_
    refine lv_iload_n hx hb d_MD_choice_50 rfl (lv_at hl 4 rfl) ?_
    refine tm_cIf X h (tm_rV (q0 := 0) X h (c_MD_freeOf l D cI cZ ad (n) (b) u (hn) (hn2) _) ki_MD_freeOf kw_693 rfl rfl rfl rfl rfl ⟨by decide, by decide⟩ rfl hl.1 rfl (Nat.le_of_ble_eq_true rfl) d_MD_choice_51 ⟨by decide, by decide⟩) (fun H locs h => ?_)
    refine lv_ior hx hb d_MD_choice_54 ?_
    refine lv_iconst (v := 1) hx hb d_MD_choice_55 (by decide) ?_
    refine lv_aload_n hx hb d_MD_choice_56 rfl (lv_at hl 1 rfl) ?_
    refine lv_iload_n hx hb d_MD_choice_57 rfl (lv_at hl 2 rfl) ?_
    refine tm_cIf X h (tm_rV (q0 := 0) X h (c_MD_highOf l D cI cZ ad (n) (c) u (hn) (hn2) _) ki_MD_highOf kw_697 rfl rfl rfl rfl rfl ⟨by decide, by decide⟩ rfl hl.1 rfl (Nat.le_of_ble_eq_true rfl) d_MD_choice_58 ⟨by decide, by decide⟩) (fun H locs h => ?_)
    refine lv_aload_n hx hb d_MD_choice_61 rfl (lv_at hl 1 rfl) ?_
    refine lv_iload_n hx hb d_MD_choice_62 rfl (lv_at hl 3 rfl) ?_
    refine tm_cIf X h (tm_rV16 (q0 := 0) X h (c_MD_highOf l D cI cZ ad (n) (a) u (hn) (hn2) _) ki_MD_highOf kw_697 rfl rfl rfl rfl rfl ⟨by decide, by decide⟩ rfl hl.1 rfl (Nat.le_of_ble_eq_true rfl) d_MD_choice_63 ⟨by decide, by decide⟩) (fun H locs h => ?_)
    refine lv_aload_n hx hb d_MD_choice_66 rfl (lv_at hl 1 rfl) ?_
    refine lv_iload_n hx hb d_MD_choice_67 rfl (lv_at hl 4 rfl) ?_
    refine tm_cIf X h (tm_rV16 (q0 := 0) X h (c_MD_highOf l D cI cZ ad (n) (b) u (hn) (hn2) _) ki_MD_highOf kw_697 rfl rfl rfl rfl rfl ⟨by decide, by decide⟩ rfl hl.1 rfl (Nat.le_of_ble_eq_true rfl) d_MD_choice_68 ⟨by decide, by decide⟩) (fun H locs h => ?_)
    refine tm_cIf X h (tm_rS16 X h (c_MD_greatest l D cI cZ ad ((ms_hi u (a))) ((ms_hi u (b))) u  _) ks_MD_greatest kw_705 rfl rfl ⟨by decide, by decide⟩ rfl hl.1 rfl (Nat.le_of_ble_eq_true rfl) d_MD_choice_71 ⟨by decide, by decide⟩) (fun H locs h => ?_)
    refine tm_cIf X h (tm_rS X h (c_MD_greatest l D cI cZ ad ((ms_hi u (c))) ((ms_gr ((ms_hi u (a))) ((ms_hi u (b))))) u  _) ks_MD_greatest kw_705 rfl rfl ⟨by decide, by decide⟩ rfl hl.1 rfl (Nat.le_of_ble_eq_true rfl) d_MD_choice_74 ⟨by decide, by decide⟩) (fun H locs h => ?_)
    refine lv_iadd hx hb d_MD_choice_77 ?_
    refine tm_cIf X h (tm_rV (q0 := 0) X h (c_MD_make l D cI cZ ad (n) (0) (5) (c) (a) (b) ((((ms_fr u (c)) ||| (ms_fr u (a))) ||| (ms_fr u (b)))) ((1 + (ms_gr ((ms_hi u (c))) ((ms_gr ((ms_hi u (a))) ((ms_hi u (b)))))))) u (hn) (hn2) _) ki_MD_make kw_674 rfl rfl rfl rfl rfl ⟨by decide, by decide⟩ rfl hl.1 rfl (Nat.le_of_ble_eq_true rfl) d_MD_choice_78 ⟨by decide, by decide⟩) (fun H locs h => ?_)
    exact tm_iret (w := tm_wM ad cI cZ) (u := (ms_mkU u (n) (0) (5) (c) (a) (b) ((((ms_fr u (c)) ||| (ms_fr u (a))) ||| (ms_fr u (b)))) ((1 + (ms_gr ((ms_hi u (c))) ((ms_gr ((ms_hi u (a))) ((ms_hi u (b)))))))))) X h (by unfold ms_choU; rw [show ms_hg u c a b = 0 from if_pos (Or.inl (tm_ite0.mp h5t))]; exact ⟨rfl, rfl⟩) d_MD_choice_81
  · refine lv_aload_n hx hb d_MD_choice_8 rfl (lv_at hl 0 rfl) ?_
    refine lv_iload_n hx hb d_MD_choice_9 rfl (lv_at hl 2 rfl) ?_
    refine tm_cIf X h (tm_rV (q0 := 0) X h (c_MD_isPart l D cI cZ ad (a) u  _) ki_MD_isPart kw_689 rfl rfl rfl rfl rfl ⟨by decide, by decide⟩ rfl hl.1 rfl (Nat.le_of_ble_eq_true rfl) d_MD_choice_10 ⟨by decide, by decide⟩) (fun H locs h => ?_)
    refine lv_if_eq hx hb d_MD_choice_13 (tgt := 28) rfl (fun h13t => ?_) (fun h13f => ?_)
    · refine lv_iconst (v := 0) hx hb d_MD_choice_28 (by decide) ?_
      refine lv_istore hx hb d_MD_choice_29 hl (by decide) rfl (fun ls (hl : lv_has ls 5 [(4, .int (0)), (0, .ref (ad 0)), (1, .int (c)), (2, .int (a)), (3, .int (b))]) => ?_)
      refine lv_aload_n hx hb d_MD_choice_31 rfl (lv_at hl 1 rfl) ?_
      refine lv_iload hx hb d_MD_choice_32 (lv_at hl 0 rfl) ?_
      refine lv_iconst (v := 5) hx hb d_MD_choice_34 (by decide) ?_
      refine lv_iload_n hx hb d_MD_choice_35 rfl (lv_at hl 2 rfl) ?_
      refine lv_iload_n hx hb d_MD_choice_36 rfl (lv_at hl 3 rfl) ?_
      refine lv_iload_n hx hb d_MD_choice_37 rfl (lv_at hl 4 rfl) ?_
      refine lv_aload_n hx hb d_MD_choice_38 rfl (lv_at hl 1 rfl) ?_
      refine lv_iload_n hx hb d_MD_choice_39 rfl (lv_at hl 2 rfl) ?_
      refine tm_cIf X h (tm_rV (q0 := 0) X h (c_MD_freeOf l D cI cZ ad (n) (c) u (hn) (hn2) _) ki_MD_freeOf kw_693 rfl rfl rfl rfl rfl ⟨by decide, by decide⟩ rfl hl.1 rfl (Nat.le_of_ble_eq_true rfl) d_MD_choice_40 ⟨by decide, by decide⟩) (fun H locs h => ?_)
      refine lv_aload_n hx hb d_MD_choice_43 rfl (lv_at hl 1 rfl) ?_
      refine lv_iload_n hx hb d_MD_choice_44 rfl (lv_at hl 3 rfl) ?_
      refine tm_cIf X h (tm_rV (q0 := 0) X h (c_MD_freeOf l D cI cZ ad (n) (a) u (hn) (hn2) _) ki_MD_freeOf kw_693 rfl rfl rfl rfl rfl ⟨by decide, by decide⟩ rfl hl.1 rfl (Nat.le_of_ble_eq_true rfl) d_MD_choice_45 ⟨by decide, by decide⟩) (fun H locs h => ?_)
      refine lv_ior hx hb d_MD_choice_48 ?_
      refine lv_aload_n hx hb d_MD_choice_49 rfl (lv_at hl 1 rfl) ?_
      refine lv_iload_n hx hb d_MD_choice_50 rfl (lv_at hl 4 rfl) ?_
      refine tm_cIf X h (tm_rV (q0 := 0) X h (c_MD_freeOf l D cI cZ ad (n) (b) u (hn) (hn2) _) ki_MD_freeOf kw_693 rfl rfl rfl rfl rfl ⟨by decide, by decide⟩ rfl hl.1 rfl (Nat.le_of_ble_eq_true rfl) d_MD_choice_51 ⟨by decide, by decide⟩) (fun H locs h => ?_)
      refine lv_ior hx hb d_MD_choice_54 ?_
      refine lv_iconst (v := 1) hx hb d_MD_choice_55 (by decide) ?_
      refine lv_aload_n hx hb d_MD_choice_56 rfl (lv_at hl 1 rfl) ?_
      refine lv_iload_n hx hb d_MD_choice_57 rfl (lv_at hl 2 rfl) ?_
      refine tm_cIf X h (tm_rV (q0 := 0) X h (c_MD_highOf l D cI cZ ad (n) (c) u (hn) (hn2) _) ki_MD_highOf kw_697 rfl rfl rfl rfl rfl ⟨by decide, by decide⟩ rfl hl.1 rfl (Nat.le_of_ble_eq_true rfl) d_MD_choice_58 ⟨by decide, by decide⟩) (fun H locs h => ?_)
      refine lv_aload_n hx hb d_MD_choice_61 rfl (lv_at hl 1 rfl) ?_
      refine lv_iload_n hx hb d_MD_choice_62 rfl (lv_at hl 3 rfl) ?_
      refine tm_cIf X h (tm_rV16 (q0 := 0) X h (c_MD_highOf l D cI cZ ad (n) (a) u (hn) (hn2) _) ki_MD_highOf kw_697 rfl rfl rfl rfl rfl ⟨by decide, by decide⟩ rfl hl.1 rfl (Nat.le_of_ble_eq_true rfl) d_MD_choice_63 ⟨by decide, by decide⟩) (fun H locs h => ?_)
      refine lv_aload_n hx hb d_MD_choice_66 rfl (lv_at hl 1 rfl) ?_
      refine lv_iload_n hx hb d_MD_choice_67 rfl (lv_at hl 4 rfl) ?_
      refine tm_cIf X h (tm_rV16 (q0 := 0) X h (c_MD_highOf l D cI cZ ad (n) (b) u (hn) (hn2) _) ki_MD_highOf kw_697 rfl rfl rfl rfl rfl ⟨by decide, by decide⟩ rfl hl.1 rfl (Nat.le_of_ble_eq_true rfl) d_MD_choice_68 ⟨by decide, by decide⟩) (fun H locs h => ?_)
      refine tm_cIf X h (tm_rS16 X h (c_MD_greatest l D cI cZ ad ((ms_hi u (a))) ((ms_hi u (b))) u  _) ks_MD_greatest kw_705 rfl rfl ⟨by decide, by decide⟩ rfl hl.1 rfl (Nat.le_of_ble_eq_true rfl) d_MD_choice_71 ⟨by decide, by decide⟩) (fun H locs h => ?_)
      refine tm_cIf X h (tm_rS X h (c_MD_greatest l D cI cZ ad ((ms_hi u (c))) ((ms_gr ((ms_hi u (a))) ((ms_hi u (b))))) u  _) ks_MD_greatest kw_705 rfl rfl ⟨by decide, by decide⟩ rfl hl.1 rfl (Nat.le_of_ble_eq_true rfl) d_MD_choice_74 ⟨by decide, by decide⟩) (fun H locs h => ?_)
      refine lv_iadd hx hb d_MD_choice_77 ?_
      refine tm_cIf X h (tm_rV (q0 := 0) X h (c_MD_make l D cI cZ ad (n) (0) (5) (c) (a) (b) ((((ms_fr u (c)) ||| (ms_fr u (a))) ||| (ms_fr u (b)))) ((1 + (ms_gr ((ms_hi u (c))) ((ms_gr ((ms_hi u (a))) ((ms_hi u (b)))))))) u (hn) (hn2) _) ki_MD_make kw_674 rfl rfl rfl rfl rfl ⟨by decide, by decide⟩ rfl hl.1 rfl (Nat.le_of_ble_eq_true rfl) d_MD_choice_78 ⟨by decide, by decide⟩) (fun H locs h => ?_)
      exact tm_iret (w := tm_wM ad cI cZ) (u := (ms_mkU u (n) (0) (5) (c) (a) (b) ((((ms_fr u (c)) ||| (ms_fr u (a))) ||| (ms_fr u (b)))) ((1 + (ms_gr ((ms_hi u (c))) ((ms_gr ((ms_hi u (a))) ((ms_hi u (b)))))))))) X h (by unfold ms_choU; rw [show ms_hg u c a b = 0 from if_pos (Or.inr (Or.inl (tm_ite0.mp h13t)))]; exact ⟨rfl, rfl⟩) d_MD_choice_81
    · refine lv_aload_n hx hb d_MD_choice_16 rfl (lv_at hl 0 rfl) ?_
      refine lv_iload_n hx hb d_MD_choice_17 rfl (lv_at hl 3 rfl) ?_
      refine tm_cIf X h (tm_rV (q0 := 0) X h (c_MD_isPart l D cI cZ ad (b) u  _) ki_MD_isPart kw_689 rfl rfl rfl rfl rfl ⟨by decide, by decide⟩ rfl hl.1 rfl (Nat.le_of_ble_eq_true rfl) d_MD_choice_18 ⟨by decide, by decide⟩) (fun H locs h => ?_)
      refine lv_if_eq hx hb d_MD_choice_21 (tgt := 28) rfl (fun h21t => ?_) (fun h21f => ?_)
      · refine lv_iconst (v := 0) hx hb d_MD_choice_28 (by decide) ?_
        refine lv_istore hx hb d_MD_choice_29 hl (by decide) rfl (fun ls (hl : lv_has ls 5 [(4, .int (0)), (0, .ref (ad 0)), (1, .int (c)), (2, .int (a)), (3, .int (b))]) => ?_)
        refine lv_aload_n hx hb d_MD_choice_31 rfl (lv_at hl 1 rfl) ?_
        refine lv_iload hx hb d_MD_choice_32 (lv_at hl 0 rfl) ?_
        refine lv_iconst (v := 5) hx hb d_MD_choice_34 (by decide) ?_
        refine lv_iload_n hx hb d_MD_choice_35 rfl (lv_at hl 2 rfl) ?_
        refine lv_iload_n hx hb d_MD_choice_36 rfl (lv_at hl 3 rfl) ?_
        refine lv_iload_n hx hb d_MD_choice_37 rfl (lv_at hl 4 rfl) ?_
        refine lv_aload_n hx hb d_MD_choice_38 rfl (lv_at hl 1 rfl) ?_
        refine lv_iload_n hx hb d_MD_choice_39 rfl (lv_at hl 2 rfl) ?_
        refine tm_cIf X h (tm_rV (q0 := 0) X h (c_MD_freeOf l D cI cZ ad (n) (c) u (hn) (hn2) _) ki_MD_freeOf kw_693 rfl rfl rfl rfl rfl ⟨by decide, by decide⟩ rfl hl.1 rfl (Nat.le_of_ble_eq_true rfl) d_MD_choice_40 ⟨by decide, by decide⟩) (fun H locs h => ?_)
        refine lv_aload_n hx hb d_MD_choice_43 rfl (lv_at hl 1 rfl) ?_
        refine lv_iload_n hx hb d_MD_choice_44 rfl (lv_at hl 3 rfl) ?_
        refine tm_cIf X h (tm_rV (q0 := 0) X h (c_MD_freeOf l D cI cZ ad (n) (a) u (hn) (hn2) _) ki_MD_freeOf kw_693 rfl rfl rfl rfl rfl ⟨by decide, by decide⟩ rfl hl.1 rfl (Nat.le_of_ble_eq_true rfl) d_MD_choice_45 ⟨by decide, by decide⟩) (fun H locs h => ?_)
        refine lv_ior hx hb d_MD_choice_48 ?_
        refine lv_aload_n hx hb d_MD_choice_49 rfl (lv_at hl 1 rfl) ?_
        refine lv_iload_n hx hb d_MD_choice_50 rfl (lv_at hl 4 rfl) ?_
        refine tm_cIf X h (tm_rV (q0 := 0) X h (c_MD_freeOf l D cI cZ ad (n) (b) u (hn) (hn2) _) ki_MD_freeOf kw_693 rfl rfl rfl rfl rfl ⟨by decide, by decide⟩ rfl hl.1 rfl (Nat.le_of_ble_eq_true rfl) d_MD_choice_51 ⟨by decide, by decide⟩) (fun H locs h => ?_)
        refine lv_ior hx hb d_MD_choice_54 ?_
        refine lv_iconst (v := 1) hx hb d_MD_choice_55 (by decide) ?_
        refine lv_aload_n hx hb d_MD_choice_56 rfl (lv_at hl 1 rfl) ?_
        refine lv_iload_n hx hb d_MD_choice_57 rfl (lv_at hl 2 rfl) ?_
        refine tm_cIf X h (tm_rV (q0 := 0) X h (c_MD_highOf l D cI cZ ad (n) (c) u (hn) (hn2) _) ki_MD_highOf kw_697 rfl rfl rfl rfl rfl ⟨by decide, by decide⟩ rfl hl.1 rfl (Nat.le_of_ble_eq_true rfl) d_MD_choice_58 ⟨by decide, by decide⟩) (fun H locs h => ?_)
        refine lv_aload_n hx hb d_MD_choice_61 rfl (lv_at hl 1 rfl) ?_
        refine lv_iload_n hx hb d_MD_choice_62 rfl (lv_at hl 3 rfl) ?_
        refine tm_cIf X h (tm_rV16 (q0 := 0) X h (c_MD_highOf l D cI cZ ad (n) (a) u (hn) (hn2) _) ki_MD_highOf kw_697 rfl rfl rfl rfl rfl ⟨by decide, by decide⟩ rfl hl.1 rfl (Nat.le_of_ble_eq_true rfl) d_MD_choice_63 ⟨by decide, by decide⟩) (fun H locs h => ?_)
        refine lv_aload_n hx hb d_MD_choice_66 rfl (lv_at hl 1 rfl) ?_
        refine lv_iload_n hx hb d_MD_choice_67 rfl (lv_at hl 4 rfl) ?_
        refine tm_cIf X h (tm_rV16 (q0 := 0) X h (c_MD_highOf l D cI cZ ad (n) (b) u (hn) (hn2) _) ki_MD_highOf kw_697 rfl rfl rfl rfl rfl ⟨by decide, by decide⟩ rfl hl.1 rfl (Nat.le_of_ble_eq_true rfl) d_MD_choice_68 ⟨by decide, by decide⟩) (fun H locs h => ?_)
        refine tm_cIf X h (tm_rS16 X h (c_MD_greatest l D cI cZ ad ((ms_hi u (a))) ((ms_hi u (b))) u  _) ks_MD_greatest kw_705 rfl rfl ⟨by decide, by decide⟩ rfl hl.1 rfl (Nat.le_of_ble_eq_true rfl) d_MD_choice_71 ⟨by decide, by decide⟩) (fun H locs h => ?_)
        refine tm_cIf X h (tm_rS X h (c_MD_greatest l D cI cZ ad ((ms_hi u (c))) ((ms_gr ((ms_hi u (a))) ((ms_hi u (b))))) u  _) ks_MD_greatest kw_705 rfl rfl ⟨by decide, by decide⟩ rfl hl.1 rfl (Nat.le_of_ble_eq_true rfl) d_MD_choice_74 ⟨by decide, by decide⟩) (fun H locs h => ?_)
        refine lv_iadd hx hb d_MD_choice_77 ?_
        refine tm_cIf X h (tm_rV (q0 := 0) X h (c_MD_make l D cI cZ ad (n) (0) (5) (c) (a) (b) ((((ms_fr u (c)) ||| (ms_fr u (a))) ||| (ms_fr u (b)))) ((1 + (ms_gr ((ms_hi u (c))) ((ms_gr ((ms_hi u (a))) ((ms_hi u (b)))))))) u (hn) (hn2) _) ki_MD_make kw_674 rfl rfl rfl rfl rfl ⟨by decide, by decide⟩ rfl hl.1 rfl (Nat.le_of_ble_eq_true rfl) d_MD_choice_78 ⟨by decide, by decide⟩) (fun H locs h => ?_)
        exact tm_iret (w := tm_wM ad cI cZ) (u := (ms_mkU u (n) (0) (5) (c) (a) (b) ((((ms_fr u (c)) ||| (ms_fr u (a))) ||| (ms_fr u (b)))) ((1 + (ms_gr ((ms_hi u (c))) ((ms_gr ((ms_hi u (a))) ((ms_hi u (b)))))))))) X h (by unfold ms_choU; rw [show ms_hg u c a b = 0 from if_pos (Or.inr (Or.inr (tm_ite0.mp h21t)))]; exact ⟨rfl, rfl⟩) d_MD_choice_81
      · refine lv_iconst (v := 1) hx hb d_MD_choice_24 (by decide) ?_
        refine lv_goto hx hb d_MD_choice_25 (tgt := 29) rfl ?_
        refine lv_istore hx hb d_MD_choice_29 hl (by decide) rfl (fun ls (hl : lv_has ls 5 [(4, .int (1)), (0, .ref (ad 0)), (1, .int (c)), (2, .int (a)), (3, .int (b))]) => ?_)
        refine lv_aload_n hx hb d_MD_choice_31 rfl (lv_at hl 1 rfl) ?_
        refine lv_iload hx hb d_MD_choice_32 (lv_at hl 0 rfl) ?_
        refine lv_iconst (v := 5) hx hb d_MD_choice_34 (by decide) ?_
        refine lv_iload_n hx hb d_MD_choice_35 rfl (lv_at hl 2 rfl) ?_
        refine lv_iload_n hx hb d_MD_choice_36 rfl (lv_at hl 3 rfl) ?_
        refine lv_iload_n hx hb d_MD_choice_37 rfl (lv_at hl 4 rfl) ?_
        refine lv_aload_n hx hb d_MD_choice_38 rfl (lv_at hl 1 rfl) ?_
        refine lv_iload_n hx hb d_MD_choice_39 rfl (lv_at hl 2 rfl) ?_
        refine tm_cIf X h (tm_rV (q0 := 0) X h (c_MD_freeOf l D cI cZ ad (n) (c) u (hn) (hn2) _) ki_MD_freeOf kw_693 rfl rfl rfl rfl rfl ⟨by decide, by decide⟩ rfl hl.1 rfl (Nat.le_of_ble_eq_true rfl) d_MD_choice_40 ⟨by decide, by decide⟩) (fun H locs h => ?_)
        refine lv_aload_n hx hb d_MD_choice_43 rfl (lv_at hl 1 rfl) ?_
        refine lv_iload_n hx hb d_MD_choice_44 rfl (lv_at hl 3 rfl) ?_
        refine tm_cIf X h (tm_rV (q0 := 0) X h (c_MD_freeOf l D cI cZ ad (n) (a) u (hn) (hn2) _) ki_MD_freeOf kw_693 rfl rfl rfl rfl rfl ⟨by decide, by decide⟩ rfl hl.1 rfl (Nat.le_of_ble_eq_true rfl) d_MD_choice_45 ⟨by decide, by decide⟩) (fun H locs h => ?_)
        refine lv_ior hx hb d_MD_choice_48 ?_
        refine lv_aload_n hx hb d_MD_choice_49 rfl (lv_at hl 1 rfl) ?_
        refine lv_iload_n hx hb d_MD_choice_50 rfl (lv_at hl 4 rfl) ?_
        refine tm_cIf X h (tm_rV (q0 := 0) X h (c_MD_freeOf l D cI cZ ad (n) (b) u (hn) (hn2) _) ki_MD_freeOf kw_693 rfl rfl rfl rfl rfl ⟨by decide, by decide⟩ rfl hl.1 rfl (Nat.le_of_ble_eq_true rfl) d_MD_choice_51 ⟨by decide, by decide⟩) (fun H locs h => ?_)
        refine lv_ior hx hb d_MD_choice_54 ?_
        refine lv_iconst (v := 1) hx hb d_MD_choice_55 (by decide) ?_
        refine lv_aload_n hx hb d_MD_choice_56 rfl (lv_at hl 1 rfl) ?_
        refine lv_iload_n hx hb d_MD_choice_57 rfl (lv_at hl 2 rfl) ?_
        refine tm_cIf X h (tm_rV (q0 := 0) X h (c_MD_highOf l D cI cZ ad (n) (c) u (hn) (hn2) _) ki_MD_highOf kw_697 rfl rfl rfl rfl rfl ⟨by decide, by decide⟩ rfl hl.1 rfl (Nat.le_of_ble_eq_true rfl) d_MD_choice_58 ⟨by decide, by decide⟩) (fun H locs h => ?_)
        refine lv_aload_n hx hb d_MD_choice_61 rfl (lv_at hl 1 rfl) ?_
        refine lv_iload_n hx hb d_MD_choice_62 rfl (lv_at hl 3 rfl) ?_
        refine tm_cIf X h (tm_rV16 (q0 := 0) X h (c_MD_highOf l D cI cZ ad (n) (a) u (hn) (hn2) _) ki_MD_highOf kw_697 rfl rfl rfl rfl rfl ⟨by decide, by decide⟩ rfl hl.1 rfl (Nat.le_of_ble_eq_true rfl) d_MD_choice_63 ⟨by decide, by decide⟩) (fun H locs h => ?_)
        refine lv_aload_n hx hb d_MD_choice_66 rfl (lv_at hl 1 rfl) ?_
        refine lv_iload_n hx hb d_MD_choice_67 rfl (lv_at hl 4 rfl) ?_
        refine tm_cIf X h (tm_rV16 (q0 := 0) X h (c_MD_highOf l D cI cZ ad (n) (b) u (hn) (hn2) _) ki_MD_highOf kw_697 rfl rfl rfl rfl rfl ⟨by decide, by decide⟩ rfl hl.1 rfl (Nat.le_of_ble_eq_true rfl) d_MD_choice_68 ⟨by decide, by decide⟩) (fun H locs h => ?_)
        refine tm_cIf X h (tm_rS16 X h (c_MD_greatest l D cI cZ ad ((ms_hi u (a))) ((ms_hi u (b))) u  _) ks_MD_greatest kw_705 rfl rfl ⟨by decide, by decide⟩ rfl hl.1 rfl (Nat.le_of_ble_eq_true rfl) d_MD_choice_71 ⟨by decide, by decide⟩) (fun H locs h => ?_)
        refine tm_cIf X h (tm_rS X h (c_MD_greatest l D cI cZ ad ((ms_hi u (c))) ((ms_gr ((ms_hi u (a))) ((ms_hi u (b))))) u  _) ks_MD_greatest kw_705 rfl rfl ⟨by decide, by decide⟩ rfl hl.1 rfl (Nat.le_of_ble_eq_true rfl) d_MD_choice_74 ⟨by decide, by decide⟩) (fun H locs h => ?_)
        refine lv_iadd hx hb d_MD_choice_77 ?_
        refine tm_cIf X h (tm_rV (q0 := 0) X h (c_MD_make l D cI cZ ad (n) (1) (5) (c) (a) (b) ((((ms_fr u (c)) ||| (ms_fr u (a))) ||| (ms_fr u (b)))) ((1 + (ms_gr ((ms_hi u (c))) ((ms_gr ((ms_hi u (a))) ((ms_hi u (b)))))))) u (hn) (hn2) _) ki_MD_make kw_674 rfl rfl rfl rfl rfl ⟨by decide, by decide⟩ rfl hl.1 rfl (Nat.le_of_ble_eq_true rfl) d_MD_choice_78 ⟨by decide, by decide⟩) (fun H locs h => ?_)
        exact tm_iret (w := tm_wM ad cI cZ) (u := (ms_mkU u (n) (1) (5) (c) (a) (b) ((((ms_fr u (c)) ||| (ms_fr u (a))) ||| (ms_fr u (b)))) ((1 + (ms_gr ((ms_hi u (c))) ((ms_gr ((ms_hi u (a))) ((ms_hi u (b)))))))))) X h (by unfold ms_choU; rw [show ms_hg u c a b = 1 from if_neg (fun q => q.elim (fun q => h5f (tm_ite0.mpr q)) (fun q => q.elim (fun q => h13f (tm_ite0.mpr q)) (fun q => h21f (tm_ite0.mpr q))))]; exact ⟨rfl, rfl⟩) d_MD_choice_81
theorem d_MD_free_0 : decode b_MD_free 0 = .ok (.aload_n 0, 1) := by decide +kernel
theorem d_MD_free_1 : decode b_MD_free 1 = .ok (.aload_n 0, 1) := by decide +kernel
theorem d_MD_free_2 : decode b_MD_free 2 = .ok (.iload_n 1, 1) := by decide +kernel
theorem d_MD_free_3 : decode b_MD_free 3 = .ok (.invokevirtual 69, 3) := by decide +kernel
theorem d_MD_free_6 : decode b_MD_free 6 = .ok (.ifCond .eq 7, 3) := by decide +kernel
theorem d_MD_free_9 : decode b_MD_free 9 = .ok (.iconst 0, 1) := by decide +kernel
theorem d_MD_free_10 : decode b_MD_free 10 = .ok (.goto 4, 3) := by decide +kernel
theorem d_MD_free_13 : decode b_MD_free 13 = .ok (.iconst 1, 1) := by decide +kernel
theorem d_MD_free_14 : decode b_MD_free 14 = .ok (.putfield 62, 3) := by decide +kernel
theorem d_MD_free_17 : decode b_MD_free 17 = .ok (.aload_n 0, 1) := by decide +kernel
theorem d_MD_free_18 : decode b_MD_free 18 = .ok (.getfield 62, 3) := by decide +kernel
theorem d_MD_free_21 : decode b_MD_free 21 = .ok (.ifCond .ne 12, 3) := by decide +kernel
theorem d_MD_free_24 : decode b_MD_free 24 = .ok (.aload_n 0, 1) := by decide +kernel
theorem d_MD_free_25 : decode b_MD_free 25 = .ok (.getfield 22, 3) := by decide +kernel
theorem d_MD_free_28 : decode b_MD_free 28 = .ok (.iload_n 1, 1) := by decide +kernel
theorem d_MD_free_29 : decode b_MD_free 29 = .ok (.iaload, 1) := by decide +kernel
theorem d_MD_free_30 : decode b_MD_free 30 = .ok (.goto 4, 3) := by decide +kernel
theorem d_MD_free_33 : decode b_MD_free 33 = .ok (.iconst 0, 1) := by decide +kernel
theorem d_MD_free_34 : decode b_MD_free 34 = .ok (.ireturn, 1) := by decide +kernel
set_option maxHeartbeats 4000000 in
set_option maxRecDepth 100000 in
theorem c_MD_free (l : Launch) (D : va_G) (cI cZ : ClassId) (ad : Nat → Nat) (n : Nat) (e : Int32) (u : tm_SC) (hn : u.1 0 = nI n) (hn2 : n ≤ 100) : tm_I l y_MD_free b_MD_free 2 .int ({ frames := 1, cells := 0, slots := 0, locals := 21 } : Room) D (tm_yM cI cZ) (tm_wM ad cI cZ) [.ref (ad 0), .int (e)] u (fun r u' => r = (ms_fr u e) ∧ u' = (ms_freU u e)) := by
  intro sz
  refine tm_of (Qc := fun A => va_Qi (fun r u' => r = (ms_fr u e) ∧ u' = (ms_freU u e)) (fun u' t => tm_B D (tm_yM cI cZ) A (tm_wM ad cI cZ u') t) A) (by decide) (Nat.le_of_ble_eq_true rfl) ?_ sz
  intro pg eg sg mg bel met cg A ls X h hl hnm
  have hx := X.1.1
  have hb := X.1.2.1
  have hl : lv_has ls 2 [(0, .ref (ad 0)), (1, .int (e))] := hl
  refine lv_aload_n hx hb d_MD_free_0 rfl (lv_at hl 0 rfl) ?_
  refine lv_aload_n hx hb d_MD_free_1 rfl (lv_at hl 0 rfl) ?_
  refine lv_iload_n hx hb d_MD_free_2 rfl (lv_at hl 1 rfl) ?_
  refine tm_cIf X h (tm_rV (q0 := 0) X h (c_MD_isPart l D cI cZ ad (e) u  _) ki_MD_isPart kw_689 rfl rfl rfl rfl rfl ⟨by decide, by decide⟩ rfl hl.1 rfl (Nat.le_of_ble_eq_true rfl) d_MD_free_3 ⟨by decide, by decide⟩) (fun H locs h => ?_)
  refine lv_if_eq hx hb d_MD_free_6 (tgt := 13) rfl (fun h6t => ?_) (fun h6f => ?_)
  · refine lv_iconst (v := 1) hx hb d_MD_free_13 (by decide) ?_
    refine tm_put X h uw_MD t_MD t_MD_ok n_MD 0 rfl rfl 30 (by decide) kw_602 rfl rfl (rfl) (rfl) (Nat.le_of_ble_eq_true rfl) (ws' := tm_wM ad cI cZ (tm_sf u 13 (1))) rfl d_MD_free_14 (fun H locs h => ?_)
    refine lv_aload_n hx hb d_MD_free_17 rfl (lv_at hl 0 rfl) ?_
    refine tm_get X h uw_MD 0 rfl rfl 30 (by decide) kw_602 rfl rfl d_MD_free_18 ?_
    refine lv_if_ne hx hb d_MD_free_21 (tgt := 33) rfl (fun _ => ?_) (fun q => absurd q ((fun z => absurd (show (1 : Int32) = 0 from z) (by decide))))
    refine lv_iconst (v := 0) hx hb d_MD_free_33 (by decide) ?_
    exact tm_iret (w := tm_wM ad cI cZ) (u := (tm_sf u 13 (1))) X h (⟨(if_pos (tm_ite0.mp h6t)).symm, congrArg (tm_sf u 13) (if_pos (tm_ite0.mp h6t)).symm⟩) d_MD_free_34
  · refine lv_iconst (v := 0) hx hb d_MD_free_9 (by decide) ?_
    refine lv_goto hx hb d_MD_free_10 (tgt := 14) rfl ?_
    refine tm_put X h uw_MD t_MD t_MD_ok n_MD 0 rfl rfl 30 (by decide) kw_602 rfl rfl (rfl) (rfl) (Nat.le_of_ble_eq_true rfl) (ws' := tm_wM ad cI cZ (tm_sf u 13 (0))) rfl d_MD_free_14 (fun H locs h => ?_)
    refine lv_aload_n hx hb d_MD_free_17 rfl (lv_at hl 0 rfl) ?_
    refine tm_get X h uw_MD 0 rfl rfl 30 (by decide) kw_602 rfl rfl d_MD_free_18 ?_
    refine lv_if_ne hx hb d_MD_free_21 (tgt := 33) rfl (fun q => absurd (rfl) q) (fun _ => ?_)
    have q6 : ¬ ms_np u e := fun q => h6f (tm_ite0.mpr q)
    refine lv_aload_n hx hb d_MD_free_24 rfl (lv_at hl 0 rfl) ?_
    refine tm_get X h uw_MD 0 rfl rfl 5 (by decide) kw_577 rfl rfl d_MD_free_25 ?_
    refine lv_iload_n hx hb d_MD_free_28 rfl (lv_at hl 1 rfl) ?_
    refine tm_iald X h 5 0 rfl rfl (e.toNatClampNeg) ((ms_pt1 q6 hn hn2).1) ((ms_pt1 q6 hn hn2).2) (by decide) d_MD_free_29 ?_
    refine lv_goto hx hb d_MD_free_30 (tgt := 34) rfl ?_
    exact tm_iret (w := tm_wM ad cI cZ) (u := (tm_sf u 13 (0))) X h (⟨(if_neg q6).symm, congrArg (tm_sf u 13) (if_neg q6).symm⟩) d_MD_free_34
