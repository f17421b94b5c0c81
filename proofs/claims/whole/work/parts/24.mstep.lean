theorem kw_585 : (Jvm.Cond.fieldLink "TrimmedMachineModel" (122 : Nat) "TrimmedMachineModel" "run" "I") ∈ tm_wa := tm_tb (List.mem_append_right _ (List.mem_append_right _ (List.mem_append_left _ (List.mem_of_getElem? (i := 105) (by decide +kernel))))) rfl
theorem kw_586 : (Jvm.Cond.fieldLink "TrimmedMachineModel" (125 : Nat) "TrimmedMachineModel" "capacity" "I") ∈ tm_wa := tm_tb (List.mem_append_right _ (List.mem_append_right _ (List.mem_append_left _ (List.mem_of_getElem? (i := 106) (by decide +kernel))))) rfl
theorem kw_587 : (Jvm.Cond.fieldLink "TrimmedMachineModel" (128 : Nat) "TrimmedMachineModel" "done" "I") ∈ tm_wa := tm_tb (List.mem_append_right _ (List.mem_append_right _ (List.mem_append_left _ (List.mem_of_getElem? (i := 107) (by decide +kernel))))) rfl
theorem kw_588 : (Jvm.Cond.fieldLink "TrimmedMachineModel" (137 : Nat) "TrimmedMachineModel" "peak" "I") ∈ tm_wa := tm_tb (List.mem_append_right _ (List.mem_append_right _ (List.mem_append_left _ (List.mem_of_getElem? (i := 108) (by decide +kernel))))) rfl
theorem kw_721 : (Jvm.Cond.instanceMethod ({ cls := "TrimmedMachineModel", name := "begin", desc := "(II)V" } : Jvm.MethodName)) ∈ tm_wa := tm_tb (List.mem_append_right _ (List.mem_append_right _ (List.mem_append_right _ (List.mem_of_getElem? (i := 1) (by decide +kernel))))) rfl
theorem kw_722 : (Jvm.Cond.selects "TrimmedMachineModel" ({ cls := "TrimmedMachineModel", name := "begin", desc := "(II)V" } : Jvm.MethodName) ({ cls := "TrimmedMachineModel", name := "begin", desc := "(II)V" } : Jvm.MethodName)) ∈ tm_wa := tm_tb (List.mem_append_right _ (List.mem_append_right _ (List.mem_append_right _ (List.mem_of_getElem? (i := 2) (by decide +kernel))))) rfl
theorem kw_723 : (Jvm.Cond.code ({ cls := "TrimmedMachineModel", name := "begin", desc := "(II)V" } : Jvm.MethodName) prog_8_method_23_code (3 : Nat) (Option.none : Option Jvm.ClassFile.FieldType)) ∈ tm_wa := tm_tb (List.mem_append_right _ (List.mem_append_right _ (List.mem_append_right _ (List.mem_of_getElem? (i := 3) (rfl))))) rfl
theorem kw_724 : (Jvm.Cond.methodLink "TrimmedMachineModel" (134 : Nat) ({ cls := "TrimmedMachineModel", name := "measure", desc := "()V" } : Jvm.MethodName)) ∈ tm_wa := tm_tb (List.mem_append_right _ (List.mem_append_right _ (List.mem_append_right _ (List.mem_of_getElem? (i := 4) (by decide +kernel))))) rfl
theorem kw_748 : (Jvm.Cond.instanceMethod ({ cls := "TrimmedMachineModel", name := "step", desc := "()Z" } : Jvm.MethodName)) ∈ tm_wa := tm_tb (List.mem_append_right _ (List.mem_append_right _ (List.mem_append_right _ (List.mem_of_getElem? (i := 28) (by decide +kernel))))) rfl
theorem kw_749 : (Jvm.Cond.code ({ cls := "TrimmedMachineModel", name := "step", desc := "()Z" } : Jvm.MethodName) prog_8_method_32_code (1 : Nat) (Option.some Jvm.ClassFile.FieldType.boolean)) ∈ tm_wa := tm_tb (List.mem_append_right _ (List.mem_append_right _ (List.mem_append_right _ (List.mem_of_getElem? (i := 29) (rfl))))) rfl
theorem kw_750 : (Jvm.Cond.methodLink "TrimmedMachineModel" (175 : Nat) ({ cls := "TrimmedMachineModel", name := "goBack", desc := "()V" } : Jvm.MethodName)) ∈ tm_wa := tm_tb (List.mem_append_right _ (List.mem_append_right _ (List.mem_append_right _ (List.mem_of_getElem? (i := 30) (by decide +kernel))))) rfl
theorem kw_752 : (Jvm.Cond.instanceMethod ({ cls := "TrimmedMachineModel", name := "goBack", desc := "()V" } : Jvm.MethodName)) ∈ tm_wa := tm_tb (List.mem_append_right _ (List.mem_append_right _ (List.mem_append_right _ (List.mem_of_getElem? (i := 32) (by decide +kernel))))) rfl
theorem kw_753 : (Jvm.Cond.code ({ cls := "TrimmedMachineModel", name := "goBack", desc := "()V" } : Jvm.MethodName) prog_8_method_31_code (4 : Nat) (Option.none : Option Jvm.ClassFile.FieldType)) ∈ tm_wa := tm_tb (List.mem_append_right _ (List.mem_append_right _ (List.mem_append_right _ (List.mem_of_getElem? (i := 33) (rfl))))) rfl
theorem kw_762 : (Jvm.Cond.methodLink "TrimmedMachineModel" (167 : Nat) ({ cls := "TrimmedMachineModel", name := "operated", desc := "(III)I" } : Jvm.MethodName)) ∈ tm_wa := tm_tb (List.mem_append_right _ (List.mem_append_right _ (List.mem_append_right _ (List.mem_of_getElem? (i := 42) (by decide +kernel))))) rfl
theorem kw_769 : (Jvm.Cond.methodLink "TrimmedMachineModel" (171 : Nat) ({ cls := "TrimmedMachineModel", name := "apply", desc := "(IIZ)V" } : Jvm.MethodName)) ∈ tm_wa := tm_tb (List.mem_append_right _ (List.mem_append_right _ (List.mem_append_right _ (List.mem_of_getElem? (i := 49) (by decide +kernel))))) rfl
theorem kw_777 : (Jvm.Cond.methodLink "TrimmedMachineModel" (178 : Nat) ({ cls := "TrimmedMachineModel", name := "evaluate", desc := "()V" } : Jvm.MethodName)) ∈ tm_wa := tm_tb (List.mem_append_right _ (List.mem_append_right _ (List.mem_append_right _ (List.mem_of_getElem? (i := 57) (by decide +kernel))))) rfl
theorem kw_790 : (Jvm.Cond.instanceMethod ({ cls := "TrimmedMachineModel", name := "about", desc := "(I)I" } : Jvm.MethodName)) ∈ tm_wa := tm_tb (List.mem_append_right _ (List.mem_append_right _ (List.mem_append_right _ (List.mem_of_getElem? (i := 70) (by decide +kernel))))) rfl
theorem kw_791 : (Jvm.Cond.selects "TrimmedMachineModel" ({ cls := "TrimmedMachineModel", name := "about", desc := "(I)I" } : Jvm.MethodName) ({ cls := "TrimmedMachineModel", name := "about", desc := "(I)I" } : Jvm.MethodName)) ∈ tm_wa := tm_tb (List.mem_append_right _ (List.mem_append_right _ (List.mem_append_right _ (List.mem_of_getElem? (i := 71) (by decide +kernel))))) rfl
theorem kw_792 : (Jvm.Cond.code ({ cls := "TrimmedMachineModel", name := "about", desc := "(I)I" } : Jvm.MethodName) prog_8_method_34_code (3 : Nat) (Option.some Jvm.ClassFile.FieldType.int)) ∈ tm_wa := tm_tb (List.mem_append_right _ (List.mem_append_right _ (List.mem_append_right _ (List.mem_of_getElem? (i := 72) (rfl))))) rfl
theorem kw_794 : (Jvm.Cond.instanceMethod ({ cls := "TrimmedMachineModel", name := "result", desc := "()I" } : Jvm.MethodName)) ∈ tm_wa := tm_tb (List.mem_append_right _ (List.mem_append_right _ (List.mem_append_right _ (List.mem_of_getElem? (i := 74) (by decide +kernel))))) rfl
theorem kw_795 : (Jvm.Cond.selects "TrimmedMachineModel" ({ cls := "TrimmedMachineModel", name := "result", desc := "()I" } : Jvm.MethodName) ({ cls := "TrimmedMachineModel", name := "result", desc := "()I" } : Jvm.MethodName)) ∈ tm_wa := tm_tb (List.mem_append_right _ (List.mem_append_right _ (List.mem_append_right _ (List.mem_of_getElem? (i := 75) (by decide +kernel))))) rfl
theorem kw_796 : (Jvm.Cond.code ({ cls := "TrimmedMachineModel", name := "result", desc := "()I" } : Jvm.MethodName) prog_8_method_35_code (1 : Nat) (Option.some Jvm.ClassFile.FieldType.int)) ∈ tm_wa := tm_tb (List.mem_append_right _ (List.mem_append_right _ (List.mem_append_right _ (List.mem_of_getElem? (i := 76) (rfl))))) rfl
theorem kw_798 : (Jvm.Cond.instanceMethod ({ cls := "TrimmedMachineModel", name := "isClosure", desc := "()Z" } : Jvm.MethodName)) ∈ tm_wa := tm_tb (List.mem_append_right _ (List.mem_append_right _ (List.mem_append_right _ (List.mem_of_getElem? (i := 78) (by decide +kernel))))) rfl
theorem kw_799 : (Jvm.Cond.selects "TrimmedMachineModel" ({ cls := "TrimmedMachineModel", name := "isClosure", desc := "()Z" } : Jvm.MethodName) ({ cls := "TrimmedMachineModel", name := "isClosure", desc := "()Z" } : Jvm.MethodName)) ∈ tm_wa := tm_tb (List.mem_append_right _ (List.mem_append_right _ (List.mem_append_right _ (List.mem_of_getElem? (i := 79) (by decide +kernel))))) rfl
theorem kw_800 : (Jvm.Cond.code ({ cls := "TrimmedMachineModel", name := "isClosure", desc := "()Z" } : Jvm.MethodName) prog_8_method_36_code (1 : Nat) (Option.some Jvm.ClassFile.FieldType.boolean)) ∈ tm_wa := tm_tb (List.mem_append_right _ (List.mem_append_right _ (List.mem_append_right _ (List.mem_of_getElem? (i := 80) (rfl))))) rfl
abbrev y_MD_goBack : MethodName := { cls := "TrimmedMachineModel", name := "goBack", desc := "()V" }
abbrev b_MD_goBack : ByteArray := prog_8_method_31_code
theorem ki_MD_goBack : tm_ki y_MD_goBack b_MD_goBack 4 none 0 := ⟨⟨kw_6, kw_753, by decide, by decide, by decide +kernel⟩, kw_752, tm_sel (n := 31) (List.mem_append_right _ (List.mem_append_right _ (List.mem_append_left _ (List.mem_of_getElem? (i := 13) rfl))))⟩
abbrev y_MD_step : MethodName := { cls := "TrimmedMachineModel", name := "step", desc := "()Z" }
abbrev b_MD_step : ByteArray := prog_8_method_32_code
theorem ki_MD_step : tm_ki y_MD_step b_MD_step 1 (some .boolean) 0 := ⟨⟨kw_6, kw_749, by decide, by decide, by decide +kernel⟩, kw_748, tm_sel (n := 31) (List.mem_append_right _ (List.mem_append_right _ (List.mem_append_left _ (List.mem_of_getElem? (i := 12) rfl))))⟩
abbrev y_MD_about : MethodName := { cls := "TrimmedMachineModel", name := "about", desc := "(I)I" }
abbrev b_MD_about : ByteArray := prog_8_method_34_code
theorem ki_MD_about : tm_ki y_MD_about b_MD_about 3 (some .int) 1 := ⟨⟨kw_6, kw_792, by decide, by decide, by decide +kernel⟩, kw_790, kw_791⟩
abbrev y_MD_result : MethodName := { cls := "TrimmedMachineModel", name := "result", desc := "()I" }
abbrev b_MD_result : ByteArray := prog_8_method_35_code
theorem ki_MD_result : tm_ki y_MD_result b_MD_result 1 (some .int) 0 := ⟨⟨kw_6, kw_796, by decide, by decide, by decide +kernel⟩, kw_794, kw_795⟩
abbrev y_MD_isClosure : MethodName := { cls := "TrimmedMachineModel", name := "isClosure", desc := "()Z" }
abbrev b_MD_isClosure : ByteArray := prog_8_method_36_code
theorem ki_MD_isClosure : tm_ki y_MD_isClosure b_MD_isClosure 1 (some .boolean) 0 := ⟨⟨kw_6, kw_800, by decide, by decide, by decide +kernel⟩, kw_798, kw_799⟩
abbrev y_MD_begin : MethodName := { cls := "TrimmedMachineModel", name := "begin", desc := "(II)V" }
abbrev b_MD_begin : ByteArray := prog_8_method_23_code
theorem ki_MD_begin : tm_ki y_MD_begin b_MD_begin 3 none 2 := ⟨⟨kw_6, kw_723, by decide, by decide, by decide +kernel⟩, kw_721, kw_722⟩
theorem d_MD_goBack_0 : decode b_MD_goBack 0 = .ok (.aload_n 0, 1) := by decide +kernel
theorem d_MD_goBack_1 : decode b_MD_goBack 1 = .ok (.getfield 116, 3) := by decide +kernel
theorem d_MD_goBack_4 : decode b_MD_goBack 4 = .ok (.iconst 1, 1) := by decide +kernel
theorem d_MD_goBack_5 : decode b_MD_goBack 5 = .ok (.isub, 1) := by decide +kernel
theorem d_MD_goBack_6 : decode b_MD_goBack 6 = .ok (.istore_n 1, 1) := by decide +kernel
theorem d_MD_goBack_7 : decode b_MD_goBack 7 = .ok (.iload_n 1, 1) := by decide +kernel
theorem d_MD_goBack_8 : decode b_MD_goBack 8 = .ok (.ifCond .ge 9, 3) := by decide +kernel
theorem d_MD_goBack_17 : decode b_MD_goBack 17 = .ok (.aload_n 0, 1) := by decide +kernel
theorem d_MD_goBack_18 : decode b_MD_goBack 18 = .ok (.getfield 47, 3) := by decide +kernel
theorem d_MD_goBack_21 : decode b_MD_goBack 21 = .ok (.iload_n 1, 1) := by decide +kernel
theorem d_MD_goBack_22 : decode b_MD_goBack 22 = .ok (.iaload, 1) := by decide +kernel
theorem d_MD_goBack_23 : decode b_MD_goBack 23 = .ok (.istore_n 2, 1) := by decide +kernel
theorem d_MD_goBack_24 : decode b_MD_goBack 24 = .ok (.iload_n 2, 1) := by decide +kernel
theorem d_MD_goBack_25 : decode b_MD_goBack 25 = .ok (.iconst 1, 1) := by decide +kernel
theorem d_MD_goBack_26 : decode b_MD_goBack 26 = .ok (.if_icmp .ne 12, 3) := by decide +kernel
theorem d_MD_goBack_29 : decode b_MD_goBack 29 = .ok (.aload_n 0, 1) := by decide +kernel
theorem d_MD_goBack_30 : decode b_MD_goBack 30 = .ok (.getfield 59, 3) := by decide +kernel
theorem d_MD_goBack_33 : decode b_MD_goBack 33 = .ok (.iload_n 1, 1) := by decide +kernel
theorem d_MD_goBack_34 : decode b_MD_goBack 34 = .ok (.baload, 1) := by decide +kernel
theorem d_MD_goBack_35 : decode b_MD_goBack 35 = .ok (.ifCond .eq 36, 3) := by decide +kernel
theorem d_MD_goBack_38 : decode b_MD_goBack 38 = .ok (.iload_n 2, 1) := by decide +kernel
theorem d_MD_goBack_39 : decode b_MD_goBack 39 = .ok (.iconst 3, 1) := by decide +kernel
theorem d_MD_goBack_40 : decode b_MD_goBack 40 = .ok (.if_icmp .ne 19, 3) := by decide +kernel
theorem d_MD_goBack_43 : decode b_MD_goBack 43 = .ok (.aload_n 0, 1) := by decide +kernel
theorem d_MD_goBack_44 : decode b_MD_goBack 44 = .ok (.getfield 59, 3) := by decide +kernel
theorem d_MD_goBack_47 : decode b_MD_goBack 47 = .ok (.iload_n 1, 1) := by decide +kernel
theorem d_MD_goBack_48 : decode b_MD_goBack 48 = .ok (.baload, 1) := by decide +kernel
theorem d_MD_goBack_49 : decode b_MD_goBack 49 = .ok (.ifCond .ne 22, 3) := by decide +kernel
theorem d_MD_goBack_52 : decode b_MD_goBack 52 = .ok (.aload_n 0, 1) := by decide +kernel
theorem d_MD_goBack_53 : decode b_MD_goBack 53 = .ok (.getfield 107, 3) := by decide +kernel
theorem d_MD_goBack_56 : decode b_MD_goBack 56 = .ok (.ifCond .ne 15, 3) := by decide +kernel
theorem d_MD_goBack_59 : decode b_MD_goBack 59 = .ok (.iload_n 2, 1) := by decide +kernel
theorem d_MD_goBack_60 : decode b_MD_goBack 60 = .ok (.iconst 4, 1) := by decide +kernel
theorem d_MD_goBack_61 : decode b_MD_goBack 61 = .ok (.if_icmp .ne 14, 3) := by decide +kernel
theorem d_MD_goBack_64 : decode b_MD_goBack 64 = .ok (.aload_n 0, 1) := by decide +kernel
theorem d_MD_goBack_65 : decode b_MD_goBack 65 = .ok (.getfield 107, 3) := by decide +kernel
theorem d_MD_goBack_68 : decode b_MD_goBack 68 = .ok (.ifCond .eq 7, 3) := by decide +kernel
theorem d_MD_goBack_71 : decode b_MD_goBack 71 = .ok (.iconst 1, 1) := by decide +kernel
theorem d_MD_goBack_72 : decode b_MD_goBack 72 = .ok (.goto 4, 3) := by decide +kernel
theorem d_MD_goBack_75 : decode b_MD_goBack 75 = .ok (.iconst 0, 1) := by decide +kernel
theorem d_MD_goBack_76 : decode b_MD_goBack 76 = .ok (.istore_n 3, 1) := by decide +kernel
theorem d_MD_goBack_77 : decode b_MD_goBack 77 = .ok (.iload_n 3, 1) := by decide +kernel
theorem d_MD_goBack_78 : decode b_MD_goBack 78 = .ok (.ifCond .eq 11, 3) := by decide +kernel
theorem d_MD_goBack_81 : decode b_MD_goBack 81 = .ok (.aload_n 0, 1) := by decide +kernel
theorem d_MD_goBack_82 : decode b_MD_goBack 82 = .ok (.iconst 3, 1) := by decide +kernel
theorem d_MD_goBack_83 : decode b_MD_goBack 83 = .ok (.putfield 148, 3) := by decide +kernel
theorem d_MD_goBack_86 : decode b_MD_goBack 86 = .ok (.goto 174, 3) := by decide +kernel
theorem d_MD_goBack_89 : decode b_MD_goBack 89 = .ok (.iload_n 2, 1) := by decide +kernel
theorem d_MD_goBack_90 : decode b_MD_goBack 90 = .ok (.ifCond .eq 8, 3) := by decide +kernel
theorem d_MD_goBack_93 : decode b_MD_goBack 93 = .ok (.iload_n 2, 1) := by decide +kernel
theorem d_MD_goBack_94 : decode b_MD_goBack 94 = .ok (.iconst 2, 1) := by decide +kernel
theorem d_MD_goBack_95 : decode b_MD_goBack 95 = .ok (.if_icmp .ne 48, 3) := by decide +kernel
theorem d_MD_goBack_98 : decode b_MD_goBack 98 = .ok (.aload_n 0, 1) := by decide +kernel
theorem d_MD_goBack_99 : decode b_MD_goBack 99 = .ok (.getfield 47, 3) := by decide +kernel
theorem d_MD_goBack_102 : decode b_MD_goBack 102 = .ok (.iload_n 1, 1) := by decide +kernel
theorem d_MD_goBack_103 : decode b_MD_goBack 103 = .ok (.iload_n 2, 1) := by decide +kernel
theorem d_MD_goBack_104 : decode b_MD_goBack 104 = .ok (.iconst 1, 1) := by decide +kernel
theorem d_MD_goBack_105 : decode b_MD_goBack 105 = .ok (.iadd, 1) := by decide +kernel
theorem d_MD_goBack_106 : decode b_MD_goBack 106 = .ok (.iastore, 1) := by decide +kernel
theorem d_MD_goBack_107 : decode b_MD_goBack 107 = .ok (.aload_n 0, 1) := by decide +kernel
theorem d_MD_goBack_108 : decode b_MD_goBack 108 = .ok (.getfield 56, 3) := by decide +kernel
theorem d_MD_goBack_111 : decode b_MD_goBack 111 = .ok (.iload_n 1, 1) := by decide +kernel
theorem d_MD_goBack_112 : decode b_MD_goBack 112 = .ok (.aload_n 0, 1) := by decide +kernel
theorem d_MD_goBack_113 : decode b_MD_goBack 113 = .ok (.getfield 110, 3) := by decide +kernel
theorem d_MD_goBack_116 : decode b_MD_goBack 116 = .ok (.iastore, 1) := by decide +kernel
theorem d_MD_goBack_117 : decode b_MD_goBack 117 = .ok (.aload_n 0, 1) := by decide +kernel
theorem d_MD_goBack_118 : decode b_MD_goBack 118 = .ok (.getfield 59, 3) := by decide +kernel
theorem d_MD_goBack_121 : decode b_MD_goBack 121 = .ok (.iload_n 1, 1) := by decide +kernel
theorem d_MD_goBack_122 : decode b_MD_goBack 122 = .ok (.aload_n 0, 1) := by decide +kernel
theorem d_MD_goBack_123 : decode b_MD_goBack 123 = .ok (.getfield 107, 3) := by decide +kernel
theorem d_MD_goBack_126 : decode b_MD_goBack 126 = .ok (.bastore, 1) := by decide +kernel
theorem d_MD_goBack_127 : decode b_MD_goBack 127 = .ok (.aload_n 0, 1) := by decide +kernel
theorem d_MD_goBack_128 : decode b_MD_goBack 128 = .ok (.iconst 1, 1) := by decide +kernel
theorem d_MD_goBack_129 : decode b_MD_goBack 129 = .ok (.iload_n 1, 1) := by decide +kernel
theorem d_MD_goBack_130 : decode b_MD_goBack 130 = .ok (.iadd, 1) := by decide +kernel
theorem d_MD_goBack_131 : decode b_MD_goBack 131 = .ok (.aload_n 0, 1) := by decide +kernel
theorem d_MD_goBack_132 : decode b_MD_goBack 132 = .ok (.getfield 50, 3) := by decide +kernel
theorem d_MD_goBack_135 : decode b_MD_goBack 135 = .ok (.iload_n 1, 1) := by decide +kernel
theorem d_MD_goBack_136 : decode b_MD_goBack 136 = .ok (.iaload, 1) := by decide +kernel
theorem d_MD_goBack_137 : decode b_MD_goBack 137 = .ok (.invokevirtual 159, 3) := by decide +kernel
theorem d_MD_goBack_140 : decode b_MD_goBack 140 = .ok (.goto 120, 3) := by decide +kernel
theorem d_MD_goBack_143 : decode b_MD_goBack 143 = .ok (.iload_n 2, 1) := by decide +kernel
theorem d_MD_goBack_144 : decode b_MD_goBack 144 = .ok (.iconst 3, 1) := by decide +kernel
theorem d_MD_goBack_145 : decode b_MD_goBack 145 = .ok (.if_icmp .ne 40, 3) := by decide +kernel
theorem d_MD_goBack_148 : decode b_MD_goBack 148 = .ok (.aload_n 0, 1) := by decide +kernel
theorem d_MD_goBack_149 : decode b_MD_goBack 149 = .ok (.dup, 1) := by decide +kernel
theorem d_MD_goBack_150 : decode b_MD_goBack 150 = .ok (.getfield 116, 3) := by decide +kernel
theorem d_MD_goBack_153 : decode b_MD_goBack 153 = .ok (.iconst 1, 1) := by decide +kernel
theorem d_MD_goBack_154 : decode b_MD_goBack 154 = .ok (.isub, 1) := by decide +kernel
theorem d_MD_goBack_155 : decode b_MD_goBack 155 = .ok (.putfield 116, 3) := by decide +kernel
theorem d_MD_goBack_158 : decode b_MD_goBack 158 = .ok (.aload_n 0, 1) := by decide +kernel
theorem d_MD_goBack_159 : decode b_MD_goBack 159 = .ok (.aload_n 0, 1) := by decide +kernel
theorem d_MD_goBack_160 : decode b_MD_goBack 160 = .ok (.getfield 53, 3) := by decide +kernel
theorem d_MD_goBack_163 : decode b_MD_goBack 163 = .ok (.iload_n 1, 1) := by decide +kernel
theorem d_MD_goBack_164 : decode b_MD_goBack 164 = .ok (.iaload, 1) := by decide +kernel
theorem d_MD_goBack_165 : decode b_MD_goBack 165 = .ok (.aload_n 0, 1) := by decide +kernel
theorem d_MD_goBack_166 : decode b_MD_goBack 166 = .ok (.getfield 56, 3) := by decide +kernel
theorem d_MD_goBack_169 : decode b_MD_goBack 169 = .ok (.iload_n 1, 1) := by decide +kernel
theorem d_MD_goBack_170 : decode b_MD_goBack 170 = .ok (.iaload, 1) := by decide +kernel
theorem d_MD_goBack_171 : decode b_MD_goBack 171 = .ok (.aload_n 0, 1) := by decide +kernel
theorem d_MD_goBack_172 : decode b_MD_goBack 172 = .ok (.getfield 110, 3) := by decide +kernel
theorem d_MD_goBack_175 : decode b_MD_goBack 175 = .ok (.invokestatic 167, 3) := by decide +kernel
theorem d_MD_goBack_178 : decode b_MD_goBack 178 = .ok (.iconst 0, 1) := by decide +kernel
theorem d_MD_goBack_179 : decode b_MD_goBack 179 = .ok (.invokevirtual 144, 3) := by decide +kernel
theorem d_MD_goBack_182 : decode b_MD_goBack 182 = .ok (.goto 78, 3) := by decide +kernel
theorem d_MD_goBack_185 : decode b_MD_goBack 185 = .ok (.iload_n 2, 1) := by decide +kernel
theorem d_MD_goBack_186 : decode b_MD_goBack 186 = .ok (.iconst 4, 1) := by decide +kernel
theorem d_MD_goBack_187 : decode b_MD_goBack 187 = .ok (.if_icmp .ne 45, 3) := by decide +kernel
theorem d_MD_goBack_190 : decode b_MD_goBack 190 = .ok (.aload_n 0, 1) := by decide +kernel
theorem d_MD_goBack_191 : decode b_MD_goBack 191 = .ok (.dup, 1) := by decide +kernel
theorem d_MD_goBack_192 : decode b_MD_goBack 192 = .ok (.getfield 116, 3) := by decide +kernel
theorem d_MD_goBack_195 : decode b_MD_goBack 195 = .ok (.iconst 1, 1) := by decide +kernel
theorem d_MD_goBack_196 : decode b_MD_goBack 196 = .ok (.isub, 1) := by decide +kernel
theorem d_MD_goBack_197 : decode b_MD_goBack 197 = .ok (.putfield 116, 3) := by decide +kernel
theorem d_MD_goBack_200 : decode b_MD_goBack 200 = .ok (.aload_n 0, 1) := by decide +kernel
theorem d_MD_goBack_201 : decode b_MD_goBack 201 = .ok (.iconst 1, 1) := by decide +kernel
theorem d_MD_goBack_202 : decode b_MD_goBack 202 = .ok (.iload_n 1, 1) := by decide +kernel
theorem d_MD_goBack_203 : decode b_MD_goBack 203 = .ok (.iadd, 1) := by decide +kernel
theorem d_MD_goBack_204 : decode b_MD_goBack 204 = .ok (.aload_n 0, 1) := by decide +kernel
theorem d_MD_goBack_205 : decode b_MD_goBack 205 = .ok (.getfield 110, 3) := by decide +kernel
theorem d_MD_goBack_208 : decode b_MD_goBack 208 = .ok (.ifCond .eq 12, 3) := by decide +kernel
theorem d_MD_goBack_211 : decode b_MD_goBack 211 = .ok (.aload_n 0, 1) := by decide +kernel
theorem d_MD_goBack_212 : decode b_MD_goBack 212 = .ok (.getfield 50, 3) := by decide +kernel
theorem d_MD_goBack_215 : decode b_MD_goBack 215 = .ok (.iload_n 1, 1) := by decide +kernel
theorem d_MD_goBack_216 : decode b_MD_goBack 216 = .ok (.iaload, 1) := by decide +kernel
theorem d_MD_goBack_217 : decode b_MD_goBack 217 = .ok (.goto 9, 3) := by decide +kernel
theorem d_MD_goBack_220 : decode b_MD_goBack 220 = .ok (.aload_n 0, 1) := by decide +kernel
theorem d_MD_goBack_221 : decode b_MD_goBack 221 = .ok (.getfield 53, 3) := by decide +kernel
theorem d_MD_goBack_224 : decode b_MD_goBack 224 = .ok (.iload_n 1, 1) := by decide +kernel
theorem d_MD_goBack_225 : decode b_MD_goBack 225 = .ok (.iaload, 1) := by decide +kernel
theorem d_MD_goBack_226 : decode b_MD_goBack 226 = .ok (.invokevirtual 159, 3) := by decide +kernel
theorem d_MD_goBack_229 : decode b_MD_goBack 229 = .ok (.goto 31, 3) := by decide +kernel
theorem d_MD_goBack_232 : decode b_MD_goBack 232 = .ok (.aload_n 0, 1) := by decide +kernel
theorem d_MD_goBack_233 : decode b_MD_goBack 233 = .ok (.dup, 1) := by decide +kernel
theorem d_MD_goBack_234 : decode b_MD_goBack 234 = .ok (.getfield 116, 3) := by decide +kernel
theorem d_MD_goBack_237 : decode b_MD_goBack 237 = .ok (.iconst 1, 1) := by decide +kernel
theorem d_MD_goBack_238 : decode b_MD_goBack 238 = .ok (.isub, 1) := by decide +kernel
theorem d_MD_goBack_239 : decode b_MD_goBack 239 = .ok (.putfield 116, 3) := by decide +kernel
theorem d_MD_goBack_242 : decode b_MD_goBack 242 = .ok (.aload_n 0, 1) := by decide +kernel
theorem d_MD_goBack_243 : decode b_MD_goBack 243 = .ok (.aload_n 0, 1) := by decide +kernel
theorem d_MD_goBack_244 : decode b_MD_goBack 244 = .ok (.getfield 56, 3) := by decide +kernel
theorem d_MD_goBack_247 : decode b_MD_goBack 247 = .ok (.iload_n 1, 1) := by decide +kernel
theorem d_MD_goBack_248 : decode b_MD_goBack 248 = .ok (.iaload, 1) := by decide +kernel
theorem d_MD_goBack_249 : decode b_MD_goBack 249 = .ok (.aload_n 0, 1) := by decide +kernel
theorem d_MD_goBack_250 : decode b_MD_goBack 250 = .ok (.getfield 110, 3) := by decide +kernel
theorem d_MD_goBack_253 : decode b_MD_goBack 253 = .ok (.aload_n 0, 1) := by decide +kernel
theorem d_MD_goBack_254 : decode b_MD_goBack 254 = .ok (.getfield 107, 3) := by decide +kernel
theorem d_MD_goBack_257 : decode b_MD_goBack 257 = .ok (.invokevirtual 171, 3) := by decide +kernel
theorem d_MD_goBack_260 : decode b_MD_goBack 260 = .ok (.return_, 1) := by decide +kernel
set_option maxHeartbeats 4000000 in
set_option maxRecDepth 100000 in
theorem c_MD_goBack (l : Launch) (D : va_G) (cI cZ : ClassId) (ad : Nat → Nat) (f : Nat) (c : Nat) (e : Nat) (v : Nat) (b : Nat) (u : tm_SC) (hB : ms_BI u f c e v b) : tm_V l y_MD_goBack b_MD_goBack 4 ({ frames := 4, cells := 0, slots := 0, locals := 140 } : Room) D (tm_yM cI cZ) (tm_wM ad cI cZ) [.ref (ad 0)] u (fun u' => u' = (ms_bk u f c e v b)) := by
  intro sz
  refine tm_of (Qc := fun A => va_Qv (fun u' => u' = (ms_bk u f c e v b)) (fun u' t => tm_B D (tm_yM cI cZ) A (tm_wM ad cI cZ u') t) A) (by decide) (Nat.le_of_ble_eq_true rfl) ?_ sz
  intro pg eg sg mg bel met cg A ls X h hl hnm
  have hx := X.1.1
  have hb := X.1.2.1
  have hl : lv_has ls 4 [(0, .ref (ad 0))] := hl
  refine lv_aload_n hx hb d_MD_goBack_0 rfl (lv_at hl 0 rfl) ?_
  refine tm_get X h uw_MD 0 rfl rfl 23 (by decide) kw_595 rfl rfl d_MD_goBack_1 ?_
  refine lv_iconst (v := 1) hx hb d_MD_goBack_4 (by decide) ?_
  refine lv_isub hx hb d_MD_goBack_5 ?_
  refine tm_top (y := nI f) (by rw [show (u).1 11 = nI (f + 1) from hB.1]; exact nI_pred f) ?_
  refine lv_istore_n hx hb d_MD_goBack_6 rfl hl (by decide) rfl (fun ls (hl : lv_has ls 4 [(1, .int (nI f)), (0, .ref (ad 0))]) => ?_)
  refine lv_iload_n hx hb d_MD_goBack_7 rfl (lv_at hl 0 rfl) ?_
  refine lv_if_ge hx hb d_MD_goBack_8 (tgt := 17) rfl (fun _ => ?_) (fun q => absurd (nI_pos' (by have := hB.2.1; omega)) q)
  have hf2 := hB.2.1
  refine lv_aload_n hx hb d_MD_goBack_17 rfl (lv_at hl 1 rfl) ?_
  refine tm_get X h uw_MD 0 rfl rfl 24 (by decide) kw_596 rfl rfl d_MD_goBack_18 ?_
  refine lv_iload_n hx hb d_MD_goBack_21 rfl (lv_at hl 0 rfl) ?_
  refine tm_iald X h 13 0 rfl rfl (f) (by omega) (rfl) (by decide) d_MD_goBack_22 ?_
  refine lv_istore_n hx hb d_MD_goBack_23 rfl hl (by decide) rfl (fun ls (hl : lv_has ls 4 [(2, .int (((u).2.1 12 (f)))), (1, .int (nI f)), (0, .ref (ad 0))]) => ?_)
  refine lv_iload_n hx hb d_MD_goBack_24 rfl (lv_at hl 0 rfl) ?_
  refine lv_iconst (v := 1) hx hb d_MD_goBack_25 (by decide) ?_
  refine lv_icmp_ne hx hb d_MD_goBack_26 (tgt := 38) rfl (fun h26t => ?_) (fun h26f => ?_)
  · refine lv_iload_n hx hb d_MD_goBack_38 rfl (lv_at hl 0 rfl) ?_
    refine lv_iconst (v := 3) hx hb d_MD_goBack_39 (by decide) ?_
    refine lv_icmp_ne hx hb d_MD_goBack_40 (tgt := 59) rfl (fun h40t => ?_) (fun h40f => ?_)
    · refine lv_iload_n hx hb d_MD_goBack_59 rfl (lv_at hl 0 rfl) ?_
      refine lv_iconst (v := 4) hx hb d_MD_goBack_60 (by decide) ?_
      refine lv_icmp_ne hx hb d_MD_goBack_61 (tgt := 75) rfl (fun h61t => ?_) (fun h61f => ?_)
      · refine lv_iconst (v := 0) hx hb d_MD_goBack_75 (by decide) ?_
        refine lv_istore_n hx hb d_MD_goBack_76 rfl hl (by decide) rfl (fun ls (hl : lv_has ls 4 [(3, .int (0)), (2, .int (((u).2.1 12 (f)))), (1, .int (nI f)), (0, .ref (ad 0))]) => ?_)
        refine lv_iload_n hx hb d_MD_goBack_77 rfl (lv_at hl 0 rfl) ?_
        refine lv_if_eq hx hb d_MD_goBack_78 (tgt := 89) rfl (fun _ => ?_) (fun q => absurd (rfl) q)
        refine lv_iload_n hx hb d_MD_goBack_89 rfl (lv_at hl 1 rfl) ?_
        refine lv_if_eq hx hb d_MD_goBack_90 (tgt := 98) rfl (fun h90t => ?_) (fun h90f => ?_)
        · refine lv_aload_n hx hb d_MD_goBack_98 rfl (lv_at hl 3 rfl) ?_
          refine tm_get X h uw_MD 0 rfl rfl 24 (by decide) kw_596 rfl rfl d_MD_goBack_99 ?_
          refine lv_iload_n hx hb d_MD_goBack_102 rfl (lv_at hl 2 rfl) ?_
          refine lv_iload_n hx hb d_MD_goBack_103 rfl (lv_at hl 1 rfl) ?_
          refine lv_iconst (v := 1) hx hb d_MD_goBack_104 (by decide) ?_
          refine lv_iadd hx hb d_MD_goBack_105 ?_
          refine tm_iast X h 13 0 rfl rfl (f) (by omega) (rfl) (by decide) (ws' := tm_wM ad cI cZ (tm_sa u 12 (f) ((((u).2.1 12 (f)) + 1)))) rfl d_MD_goBack_106 (fun H locs h => ?_)
          refine lv_aload_n hx hb d_MD_goBack_107 rfl (lv_at hl 3 rfl) ?_
          refine tm_get X h uw_MD 0 rfl rfl 27 (by decide) kw_599 rfl rfl d_MD_goBack_108 ?_
          refine lv_iload_n hx hb d_MD_goBack_111 rfl (lv_at hl 2 rfl) ?_
          refine lv_aload_n hx hb d_MD_goBack_112 rfl (lv_at hl 3 rfl) ?_
          refine tm_get X h uw_MD 0 rfl rfl 21 (by decide) kw_593 rfl rfl d_MD_goBack_113 ?_
          refine tm_iast X h 16 0 rfl rfl (f) (by omega) (rfl) (by decide) (ws' := tm_wM ad cI cZ (tm_sa (tm_sa u 12 (f) ((((u).2.1 12 (f)) + 1))) 15 (f) ((((tm_sa u 12 (f) ((((u).2.1 12 (f)) + 1)))).1 9)))) rfl d_MD_goBack_116 (fun H locs h => ?_)
          refine lv_aload_n hx hb d_MD_goBack_117 rfl (lv_at hl 3 rfl) ?_
          refine tm_get X h uw_MD 0 rfl rfl 28 (by decide) kw_600 rfl rfl d_MD_goBack_118 ?_
          refine lv_iload_n hx hb d_MD_goBack_121 rfl (lv_at hl 2 rfl) ?_
          refine lv_aload_n hx hb d_MD_goBack_122 rfl (lv_at hl 3 rfl) ?_
          refine tm_get X h uw_MD 0 rfl rfl 22 (by decide) kw_594 rfl rfl d_MD_goBack_123 ?_
          refine tm_zast X h 17 1 rfl rfl (f) (by omega) (rfl) (by decide) (hB.2.2.2.1.nar) (ws' := tm_wM ad cI cZ (tm_sa (tm_sa (tm_sa u 12 (f) ((((u).2.1 12 (f)) + 1))) 15 (f) ((((tm_sa u 12 (f) ((((u).2.1 12 (f)) + 1)))).1 9))) 16 (f) ((((tm_sa (tm_sa u 12 (f) ((((u).2.1 12 (f)) + 1))) 15 (f) ((((tm_sa u 12 (f) ((((u).2.1 12 (f)) + 1)))).1 9)))).1 10)))) rfl d_MD_goBack_126 (fun H locs h => ?_)
          refine lv_aload_n hx hb d_MD_goBack_127 rfl (lv_at hl 3 rfl) ?_
          refine lv_iconst (v := 1) hx hb d_MD_goBack_128 (by decide) ?_
          refine lv_iload_n hx hb d_MD_goBack_129 rfl (lv_at hl 2 rfl) ?_
          refine lv_iadd hx hb d_MD_goBack_130 ?_
          refine tm_top (y := nI (1 + f)) (nI_add 1 f) ?_
          refine lv_aload_n hx hb d_MD_goBack_131 rfl (lv_at hl 3 rfl) ?_
          refine tm_get X h uw_MD 0 rfl rfl 25 (by decide) kw_597 rfl rfl d_MD_goBack_132 ?_
          refine lv_iload_n hx hb d_MD_goBack_135 rfl (lv_at hl 2 rfl) ?_
          refine tm_iald X h 14 0 rfl rfl (f) (by omega) (rfl) (by decide) d_MD_goBack_136 ?_
          refine tm_top (y := nI ((u.2.1 13 f).toNatClampNeg)) ((tm_vin (hB.2.2.2.2.2.2.1 h26t h40t) (by decide)).2) ?_
          refine tm_cVf X h (tm_rV (q0 := 0) X h (c_MD_evaluateIn l D cI cZ ad (1 + f) ((u.2.1 13 f).toNatClampNeg) (tm_sa (tm_sa (tm_sa u 12 (f) ((((u).2.1 12 (f)) + 1))) 15 (f) ((((tm_sa u 12 (f) ((((u).2.1 12 (f)) + 1)))).1 9))) 16 (f) ((((tm_sa (tm_sa u 12 (f) ((((u).2.1 12 (f)) + 1))) 15 (f) ((((tm_sa u 12 (f) ((((u).2.1 12 (f)) + 1)))).1 9)))).1 10))) (by omega) ((tm_vin (hB.2.2.2.2.2.2.1 h26t h40t) (by decide)).1) (hB.2.2.1) _) ki_MD_evaluateIn kw_754 rfl rfl rfl rfl rfl ⟨by decide, by decide⟩ rfl hl.1 rfl (Nat.le_of_ble_eq_true rfl) d_MD_goBack_137 ⟨by decide, by decide⟩) (fun H locs h => ?_)
          refine lv_goto hx hb d_MD_goBack_140 (tgt := 260) rfl ?_
          exact tm_vret (w := tm_wM ad cI cZ) (u := (ms_ei (tm_sa (tm_sa (tm_sa u 12 (f) ((((u).2.1 12 (f)) + 1))) 15 (f) ((((tm_sa u 12 (f) ((((u).2.1 12 (f)) + 1)))).1 9))) 16 (f) ((((tm_sa (tm_sa u 12 (f) ((((u).2.1 12 (f)) + 1))) 15 (f) ((((tm_sa u 12 (f) ((((u).2.1 12 (f)) + 1)))).1 9)))).1 10))) (1 + f) ((u.2.1 13 f).toNatClampNeg))) X h (by unfold ms_bk; rw [if_neg h26t, if_neg h40t, if_neg h61t]; rfl) d_MD_goBack_260
        · refine lv_iload_n hx hb d_MD_goBack_93 rfl (lv_at hl 1 rfl) ?_
          refine lv_iconst (v := 2) hx hb d_MD_goBack_94 (by decide) ?_
          refine lv_icmp_ne hx hb d_MD_goBack_95 (tgt := 143) rfl (fun q => absurd (by rcases hB.2.2.2.2.1 with q | q | q | q | q; exact absurd q h90f; exact absurd q h26t; exact q; exact absurd q h40t; exact absurd q h61t) q) (fun _ => ?_)
          refine lv_aload_n hx hb d_MD_goBack_98 rfl (lv_at hl 3 rfl) ?_
          refine tm_get X h uw_MD 0 rfl rfl 24 (by decide) kw_596 rfl rfl d_MD_goBack_99 ?_
          refine lv_iload_n hx hb d_MD_goBack_102 rfl (lv_at hl 2 rfl) ?_
          refine lv_iload_n hx hb d_MD_goBack_103 rfl (lv_at hl 1 rfl) ?_
          refine lv_iconst (v := 1) hx hb d_MD_goBack_104 (by decide) ?_
          refine lv_iadd hx hb d_MD_goBack_105 ?_
          refine tm_iast X h 13 0 rfl rfl (f) (by omega) (rfl) (by decide) (ws' := tm_wM ad cI cZ (tm_sa u 12 (f) ((((u).2.1 12 (f)) + 1)))) rfl d_MD_goBack_106 (fun H locs h => ?_)
          refine lv_aload_n hx hb d_MD_goBack_107 rfl (lv_at hl 3 rfl) ?_
          refine tm_get X h uw_MD 0 rfl rfl 27 (by decide) kw_599 rfl rfl d_MD_goBack_108 ?_
          refine lv_iload_n hx hb d_MD_goBack_111 rfl (lv_at hl 2 rfl) ?_
          refine lv_aload_n hx hb d_MD_goBack_112 rfl (lv_at hl 3 rfl) ?_
          refine tm_get X h uw_MD 0 rfl rfl 21 (by decide) kw_593 rfl rfl d_MD_goBack_113 ?_
          refine tm_iast X h 16 0 rfl rfl (f) (by omega) (rfl) (by decide) (ws' := tm_wM ad cI cZ (tm_sa (tm_sa u 12 (f) ((((u).2.1 12 (f)) + 1))) 15 (f) ((((tm_sa u 12 (f) ((((u).2.1 12 (f)) + 1)))).1 9)))) rfl d_MD_goBack_116 (fun H locs h => ?_)
          refine lv_aload_n hx hb d_MD_goBack_117 rfl (lv_at hl 3 rfl) ?_
          refine tm_get X h uw_MD 0 rfl rfl 28 (by decide) kw_600 rfl rfl d_MD_goBack_118 ?_
          refine lv_iload_n hx hb d_MD_goBack_121 rfl (lv_at hl 2 rfl) ?_
          refine lv_aload_n hx hb d_MD_goBack_122 rfl (lv_at hl 3 rfl) ?_
          refine tm_get X h uw_MD 0 rfl rfl 22 (by decide) kw_594 rfl rfl d_MD_goBack_123 ?_
          refine tm_zast X h 17 1 rfl rfl (f) (by omega) (rfl) (by decide) (hB.2.2.2.1.nar) (ws' := tm_wM ad cI cZ (tm_sa (tm_sa (tm_sa u 12 (f) ((((u).2.1 12 (f)) + 1))) 15 (f) ((((tm_sa u 12 (f) ((((u).2.1 12 (f)) + 1)))).1 9))) 16 (f) ((((tm_sa (tm_sa u 12 (f) ((((u).2.1 12 (f)) + 1))) 15 (f) ((((tm_sa u 12 (f) ((((u).2.1 12 (f)) + 1)))).1 9)))).1 10)))) rfl d_MD_goBack_126 (fun H locs h => ?_)
          refine lv_aload_n hx hb d_MD_goBack_127 rfl (lv_at hl 3 rfl) ?_
          refine lv_iconst (v := 1) hx hb d_MD_goBack_128 (by decide) ?_
          refine lv_iload_n hx hb d_MD_goBack_129 rfl (lv_at hl 2 rfl) ?_
          refine lv_iadd hx hb d_MD_goBack_130 ?_
          refine tm_top (y := nI (1 + f)) (nI_add 1 f) ?_
          refine lv_aload_n hx hb d_MD_goBack_131 rfl (lv_at hl 3 rfl) ?_
          refine tm_get X h uw_MD 0 rfl rfl 25 (by decide) kw_597 rfl rfl d_MD_goBack_132 ?_
          refine lv_iload_n hx hb d_MD_goBack_135 rfl (lv_at hl 2 rfl) ?_
          refine tm_iald X h 14 0 rfl rfl (f) (by omega) (rfl) (by decide) d_MD_goBack_136 ?_
          refine tm_top (y := nI ((u.2.1 13 f).toNatClampNeg)) ((tm_vin (hB.2.2.2.2.2.2.1 h26t h40t) (by decide)).2) ?_
          refine tm_cVf X h (tm_rV (q0 := 0) X h (c_MD_evaluateIn l D cI cZ ad (1 + f) ((u.2.1 13 f).toNatClampNeg) (tm_sa (tm_sa (tm_sa u 12 (f) ((((u).2.1 12 (f)) + 1))) 15 (f) ((((tm_sa u 12 (f) ((((u).2.1 12 (f)) + 1)))).1 9))) 16 (f) ((((tm_sa (tm_sa u 12 (f) ((((u).2.1 12 (f)) + 1))) 15 (f) ((((tm_sa u 12 (f) ((((u).2.1 12 (f)) + 1)))).1 9)))).1 10))) (by omega) ((tm_vin (hB.2.2.2.2.2.2.1 h26t h40t) (by decide)).1) (hB.2.2.1) _) ki_MD_evaluateIn kw_754 rfl rfl rfl rfl rfl ⟨by decide, by decide⟩ rfl hl.1 rfl (Nat.le_of_ble_eq_true rfl) d_MD_goBack_137 ⟨by decide, by decide⟩) (fun H locs h => ?_)
          refine lv_goto hx hb d_MD_goBack_140 (tgt := 260) rfl ?_
          exact tm_vret (w := tm_wM ad cI cZ) (u := (ms_ei (tm_sa (tm_sa (tm_sa u 12 (f) ((((u).2.1 12 (f)) + 1))) 15 (f) ((((tm_sa u 12 (f) ((((u).2.1 12 (f)) + 1)))).1 9))) 16 (f) ((((tm_sa (tm_sa u 12 (f) ((((u).2.1 12 (f)) + 1))) 15 (f) ((((tm_sa u 12 (f) ((((u).2.1 12 (f)) + 1)))).1 9)))).1 10))) (1 + f) ((u.2.1 13 f).toNatClampNeg))) X h (by unfold ms_bk; rw [if_neg h26t, if_neg h40t, if_neg h61t]; rfl) d_MD_goBack_260
      · refine lv_aload_n hx hb d_MD_goBack_64 rfl (lv_at hl 2 rfl) ?_
        refine tm_get X h uw_MD 0 rfl rfl 22 (by decide) kw_594 rfl rfl d_MD_goBack_65 ?_
        refine lv_if_eq hx hb d_MD_goBack_68 (tgt := 75) rfl (fun h68t => ?_) (fun h68f => ?_)
        · refine lv_iconst (v := 0) hx hb d_MD_goBack_75 (by decide) ?_
          refine lv_istore_n hx hb d_MD_goBack_76 rfl hl (by decide) rfl (fun ls (hl : lv_has ls 4 [(3, .int (0)), (2, .int (((u).2.1 12 (f)))), (1, .int (nI f)), (0, .ref (ad 0))]) => ?_)
          refine lv_iload_n hx hb d_MD_goBack_77 rfl (lv_at hl 0 rfl) ?_
          refine lv_if_eq hx hb d_MD_goBack_78 (tgt := 89) rfl (fun _ => ?_) (fun q => absurd (rfl) q)
          refine lv_iload_n hx hb d_MD_goBack_89 rfl (lv_at hl 1 rfl) ?_
          refine lv_if_eq hx hb d_MD_goBack_90 (tgt := 98) rfl (fun q => absurd q ((fun q => absurd (h61f.symm.trans q) (by decide)))) (fun _ => ?_)
          refine lv_iload_n hx hb d_MD_goBack_93 rfl (lv_at hl 1 rfl) ?_
          refine lv_iconst (v := 2) hx hb d_MD_goBack_94 (by decide) ?_
          refine lv_icmp_ne hx hb d_MD_goBack_95 (tgt := 143) rfl (fun _ => ?_) (fun q => absurd q ((fun q => absurd (h61f.symm.trans q) (by decide))))
          refine lv_iload_n hx hb d_MD_goBack_143 rfl (lv_at hl 1 rfl) ?_
          refine lv_iconst (v := 3) hx hb d_MD_goBack_144 (by decide) ?_
          refine lv_icmp_ne hx hb d_MD_goBack_145 (tgt := 185) rfl (fun _ => ?_) (fun q => absurd q (h40t))
          refine lv_iload_n hx hb d_MD_goBack_185 rfl (lv_at hl 1 rfl) ?_
          refine lv_iconst (v := 4) hx hb d_MD_goBack_186 (by decide) ?_
          refine lv_icmp_ne hx hb d_MD_goBack_187 (tgt := 232) rfl (fun q => absurd (h61f) q) (fun _ => ?_)
          refine lv_aload_n hx hb d_MD_goBack_190 rfl (lv_at hl 3 rfl) ?_
          refine lv_dup hx hb d_MD_goBack_191 rfl ?_
          refine tm_get X h uw_MD 0 rfl rfl 23 (by decide) kw_595 rfl rfl d_MD_goBack_192 ?_
          refine lv_iconst (v := 1) hx hb d_MD_goBack_195 (by decide) ?_
          refine lv_isub hx hb d_MD_goBack_196 ?_
          refine tm_top (y := nI f) (by rw [show (u).1 11 = nI (f + 1) from hB.1]; exact nI_pred f) ?_
          refine tm_put X h uw_MD t_MD t_MD_ok n_MD 0 rfl rfl 23 (by decide) kw_595 rfl rfl (rfl) (rfl) (Nat.le_of_ble_eq_true rfl) (ws' := tm_wM ad cI cZ (tm_sf u 11 (nI f))) rfl d_MD_goBack_197 (fun H locs h => ?_)
          refine lv_aload_n hx hb d_MD_goBack_200 rfl (lv_at hl 3 rfl) ?_
          refine lv_iconst (v := 1) hx hb d_MD_goBack_201 (by decide) ?_
          refine lv_iload_n hx hb d_MD_goBack_202 rfl (lv_at hl 2 rfl) ?_
          refine lv_iadd hx hb d_MD_goBack_203 ?_
          refine tm_top (y := nI (1 + f)) (nI_add 1 f) ?_
          refine lv_aload_n hx hb d_MD_goBack_204 rfl (lv_at hl 3 rfl) ?_
          refine tm_get X h uw_MD 0 rfl rfl 21 (by decide) kw_593 rfl rfl d_MD_goBack_205 ?_
          refine tm_top (y := u.1 9) (rfl) ?_
          refine lv_if_eq hx hb d_MD_goBack_208 (tgt := 220) rfl (fun h208t => ?_) (fun h208f => ?_)
          · refine lv_aload_n hx hb d_MD_goBack_220 rfl (lv_at hl 3 rfl) ?_
            refine tm_get X h uw_MD 0 rfl rfl 26 (by decide) kw_598 rfl rfl d_MD_goBack_221 ?_
            refine lv_iload_n hx hb d_MD_goBack_224 rfl (lv_at hl 2 rfl) ?_
            refine tm_iald X h 15 0 rfl rfl (f) (by omega) (rfl) (by decide) d_MD_goBack_225 ?_
            refine tm_top (y := nI ((u.2.1 14 f).toNatClampNeg)) ((tm_vin (hB.2.2.2.2.2.2.2 h61f) (by decide)).2) ?_
            refine tm_cVf X h (tm_rV (q0 := 0) X h (c_MD_evaluateIn l D cI cZ ad (1 + f) ((u.2.1 14 f).toNatClampNeg) (tm_sf u 11 (nI f)) (by omega) ((tm_vin (hB.2.2.2.2.2.2.2 h61f) (by decide)).1) (hB.2.2.1) _) ki_MD_evaluateIn kw_754 rfl rfl rfl rfl rfl ⟨by decide, by decide⟩ rfl hl.1 rfl (Nat.le_of_ble_eq_true rfl) d_MD_goBack_226 ⟨by decide, by decide⟩) (fun H locs h => ?_)
            refine lv_goto hx hb d_MD_goBack_229 (tgt := 260) rfl ?_
            exact tm_vret (w := tm_wM ad cI cZ) (u := (ms_ei (tm_sf u 11 (nI f)) (1 + f) ((u.2.1 14 f).toNatClampNeg))) X h (by unfold ms_bk ms_brx; rw [if_neg h26t, if_neg h40t, if_pos h61f, if_neg (fun q => q h68t), if_pos h208t]) d_MD_goBack_260
          · refine lv_aload_n hx hb d_MD_goBack_211 rfl (lv_at hl 3 rfl) ?_
            refine tm_get X h uw_MD 0 rfl rfl 25 (by decide) kw_597 rfl rfl d_MD_goBack_212 ?_
            refine lv_iload_n hx hb d_MD_goBack_215 rfl (lv_at hl 2 rfl) ?_
            refine tm_iald X h 14 0 rfl rfl (f) (by omega) (rfl) (by decide) d_MD_goBack_216 ?_
            refine lv_goto hx hb d_MD_goBack_217 (tgt := 226) rfl ?_
            refine tm_top (y := nI ((u.2.1 13 f).toNatClampNeg)) ((tm_vin (hB.2.2.2.2.2.2.1 h26t h40t) (by decide)).2) ?_
            refine tm_cVf X h (tm_rV (q0 := 0) X h (c_MD_evaluateIn l D cI cZ ad (1 + f) ((u.2.1 13 f).toNatClampNeg) (tm_sf u 11 (nI f)) (by omega) ((tm_vin (hB.2.2.2.2.2.2.1 h26t h40t) (by decide)).1) (hB.2.2.1) _) ki_MD_evaluateIn kw_754 rfl rfl rfl rfl rfl ⟨by decide, by decide⟩ rfl hl.1 rfl (Nat.le_of_ble_eq_true rfl) d_MD_goBack_226 ⟨by decide, by decide⟩) (fun H locs h => ?_)
            refine lv_goto hx hb d_MD_goBack_229 (tgt := 260) rfl ?_
            exact tm_vret (w := tm_wM ad cI cZ) (u := (ms_ei (tm_sf u 11 (nI f)) (1 + f) ((u.2.1 13 f).toNatClampNeg))) X h (by unfold ms_bk ms_brx; rw [if_neg h26t, if_neg h40t, if_pos h61f, if_neg (fun q => q h68t), if_neg h208f]) d_MD_goBack_260
        · refine lv_iconst (v := 1) hx hb d_MD_goBack_71 (by decide) ?_
          refine lv_goto hx hb d_MD_goBack_72 (tgt := 76) rfl ?_
          refine lv_istore_n hx hb d_MD_goBack_76 rfl hl (by decide) rfl (fun ls (hl : lv_has ls 4 [(3, .int (1)), (2, .int (((u).2.1 12 (f)))), (1, .int (nI f)), (0, .ref (ad 0))]) => ?_)
          refine lv_iload_n hx hb d_MD_goBack_77 rfl (lv_at hl 0 rfl) ?_
          refine lv_if_eq hx hb d_MD_goBack_78 (tgt := 89) rfl (fun q => absurd q ((by decide))) (fun _ => ?_)
          refine lv_aload_n hx hb d_MD_goBack_81 rfl (lv_at hl 3 rfl) ?_
          refine lv_iconst (v := 3) hx hb d_MD_goBack_82 (by decide) ?_
          refine tm_put X h uw_MD t_MD t_MD_ok n_MD 0 rfl rfl 29 (by decide) kw_601 rfl rfl (rfl) (rfl) (Nat.le_of_ble_eq_true rfl) (ws' := tm_wM ad cI cZ (tm_sf u 12 (3))) rfl d_MD_goBack_83 (fun H locs h => ?_)
          refine lv_goto hx hb d_MD_goBack_86 (tgt := 260) rfl ?_
          exact tm_vret (w := tm_wM ad cI cZ) (u := (tm_sf u 12 (3))) X h (by unfold ms_bk; rw [if_neg h26t, if_neg h40t, if_pos h61f, if_pos h68f]) d_MD_goBack_260
    · refine lv_aload_n hx hb d_MD_goBack_43 rfl (lv_at hl 2 rfl) ?_
      refine tm_get X h uw_MD 0 rfl rfl 28 (by decide) kw_600 rfl rfl d_MD_goBack_44 ?_
      refine lv_iload_n hx hb d_MD_goBack_47 rfl (lv_at hl 1 rfl) ?_
      refine tm_zald X h 17 1 rfl rfl (f) (by omega) (rfl) (by decide) d_MD_goBack_48 ?_
      refine lv_if_ne hx hb d_MD_goBack_49 (tgt := 71) rfl (fun h49t => ?_) (fun h49f => ?_)
      · refine lv_iconst (v := 1) hx hb d_MD_goBack_71 (by decide) ?_
        refine lv_goto hx hb d_MD_goBack_72 (tgt := 76) rfl ?_
        refine lv_istore_n hx hb d_MD_goBack_76 rfl hl (by decide) rfl (fun ls (hl : lv_has ls 4 [(3, .int (1)), (2, .int (((u).2.1 12 (f)))), (1, .int (nI f)), (0, .ref (ad 0))]) => ?_)
        refine lv_iload_n hx hb d_MD_goBack_77 rfl (lv_at hl 0 rfl) ?_
        refine lv_if_eq hx hb d_MD_goBack_78 (tgt := 89) rfl (fun q => absurd q ((by decide))) (fun _ => ?_)
        refine lv_aload_n hx hb d_MD_goBack_81 rfl (lv_at hl 3 rfl) ?_
        refine lv_iconst (v := 3) hx hb d_MD_goBack_82 (by decide) ?_
        refine tm_put X h uw_MD t_MD t_MD_ok n_MD 0 rfl rfl 29 (by decide) kw_601 rfl rfl (rfl) (rfl) (Nat.le_of_ble_eq_true rfl) (ws' := tm_wM ad cI cZ (tm_sf u 12 (3))) rfl d_MD_goBack_83 (fun H locs h => ?_)
        refine lv_goto hx hb d_MD_goBack_86 (tgt := 260) rfl ?_
        exact tm_vret (w := tm_wM ad cI cZ) (u := (tm_sf u 12 (3))) X h (by unfold ms_bk; rw [if_neg h26t, if_pos h40f, if_pos (Or.inl h49t)]) d_MD_goBack_260
      · refine lv_aload_n hx hb d_MD_goBack_52 rfl (lv_at hl 2 rfl) ?_
        refine tm_get X h uw_MD 0 rfl rfl 22 (by decide) kw_594 rfl rfl d_MD_goBack_53 ?_
        refine lv_if_ne hx hb d_MD_goBack_56 (tgt := 71) rfl (fun h56t => ?_) (fun h56f => ?_)
        · refine lv_iconst (v := 1) hx hb d_MD_goBack_71 (by decide) ?_
          refine lv_goto hx hb d_MD_goBack_72 (tgt := 76) rfl ?_
          refine lv_istore_n hx hb d_MD_goBack_76 rfl hl (by decide) rfl (fun ls (hl : lv_has ls 4 [(3, .int (1)), (2, .int (((u).2.1 12 (f)))), (1, .int (nI f)), (0, .ref (ad 0))]) => ?_)
          refine lv_iload_n hx hb d_MD_goBack_77 rfl (lv_at hl 0 rfl) ?_
          refine lv_if_eq hx hb d_MD_goBack_78 (tgt := 89) rfl (fun q => absurd q ((by decide))) (fun _ => ?_)
          refine lv_aload_n hx hb d_MD_goBack_81 rfl (lv_at hl 3 rfl) ?_
          refine lv_iconst (v := 3) hx hb d_MD_goBack_82 (by decide) ?_
          refine tm_put X h uw_MD t_MD t_MD_ok n_MD 0 rfl rfl 29 (by decide) kw_601 rfl rfl (rfl) (rfl) (Nat.le_of_ble_eq_true rfl) (ws' := tm_wM ad cI cZ (tm_sf u 12 (3))) rfl d_MD_goBack_83 (fun H locs h => ?_)
          refine lv_goto hx hb d_MD_goBack_86 (tgt := 260) rfl ?_
          exact tm_vret (w := tm_wM ad cI cZ) (u := (tm_sf u 12 (3))) X h (by unfold ms_bk; rw [if_neg h26t, if_pos h40f, if_pos (Or.inr h56t)]) d_MD_goBack_260
        · refine lv_iload_n hx hb d_MD_goBack_59 rfl (lv_at hl 0 rfl) ?_
          refine lv_iconst (v := 4) hx hb d_MD_goBack_60 (by decide) ?_
          refine lv_icmp_ne hx hb d_MD_goBack_61 (tgt := 75) rfl (fun _ => ?_) (fun q => absurd q ((fun q => absurd (h40f.symm.trans q) (by decide))))
          refine lv_iconst (v := 0) hx hb d_MD_goBack_75 (by decide) ?_
          refine lv_istore_n hx hb d_MD_goBack_76 rfl hl (by decide) rfl (fun ls (hl : lv_has ls 4 [(3, .int (0)), (2, .int (((u).2.1 12 (f)))), (1, .int (nI f)), (0, .ref (ad 0))]) => ?_)
          refine lv_iload_n hx hb d_MD_goBack_77 rfl (lv_at hl 0 rfl) ?_
          refine lv_if_eq hx hb d_MD_goBack_78 (tgt := 89) rfl (fun _ => ?_) (fun q => absurd (rfl) q)
          refine lv_iload_n hx hb d_MD_goBack_89 rfl (lv_at hl 1 rfl) ?_
          refine lv_if_eq hx hb d_MD_goBack_90 (tgt := 98) rfl (fun q => absurd q ((fun q => absurd (h40f.symm.trans q) (by decide)))) (fun _ => ?_)
          refine lv_iload_n hx hb d_MD_goBack_93 rfl (lv_at hl 1 rfl) ?_
          refine lv_iconst (v := 2) hx hb d_MD_goBack_94 (by decide) ?_
          refine lv_icmp_ne hx hb d_MD_goBack_95 (tgt := 143) rfl (fun _ => ?_) (fun q => absurd q ((fun q => absurd (h40f.symm.trans q) (by decide))))
          refine lv_iload_n hx hb d_MD_goBack_143 rfl (lv_at hl 1 rfl) ?_
          refine lv_iconst (v := 3) hx hb d_MD_goBack_144 (by decide) ?_
          refine lv_icmp_ne hx hb d_MD_goBack_145 (tgt := 185) rfl (fun q => absurd (h40f) q) (fun _ => ?_)
          refine lv_aload_n hx hb d_MD_goBack_148 rfl (lv_at hl 3 rfl) ?_
          refine lv_dup hx hb d_MD_goBack_149 rfl ?_
          refine tm_get X h uw_MD 0 rfl rfl 23 (by decide) kw_595 rfl rfl d_MD_goBack_150 ?_
          refine lv_iconst (v := 1) hx hb d_MD_goBack_153 (by decide) ?_
          refine lv_isub hx hb d_MD_goBack_154 ?_
          refine tm_top (y := nI f) (by rw [show (u).1 11 = nI (f + 1) from hB.1]; exact nI_pred f) ?_
          refine tm_put X h uw_MD t_MD t_MD_ok n_MD 0 rfl rfl 23 (by decide) kw_595 rfl rfl (rfl) (rfl) (Nat.le_of_ble_eq_true rfl) (ws' := tm_wM ad cI cZ (tm_sf u 11 (nI f))) rfl d_MD_goBack_155 (fun H locs h => ?_)
          refine lv_aload_n hx hb d_MD_goBack_158 rfl (lv_at hl 3 rfl) ?_
          refine lv_aload_n hx hb d_MD_goBack_159 rfl (lv_at hl 3 rfl) ?_
          refine tm_get X h uw_MD 0 rfl rfl 26 (by decide) kw_598 rfl rfl d_MD_goBack_160 ?_
          refine lv_iload_n hx hb d_MD_goBack_163 rfl (lv_at hl 2 rfl) ?_
          refine tm_iald X h 15 0 rfl rfl (f) (by omega) (rfl) (by decide) d_MD_goBack_164 ?_
          refine lv_aload_n hx hb d_MD_goBack_165 rfl (lv_at hl 3 rfl) ?_
          refine tm_get X h uw_MD 0 rfl rfl 27 (by decide) kw_599 rfl rfl d_MD_goBack_166 ?_
          refine lv_iload_n hx hb d_MD_goBack_169 rfl (lv_at hl 2 rfl) ?_
          refine tm_iald X h 16 0 rfl rfl (f) (by omega) (rfl) (by decide) d_MD_goBack_170 ?_
          refine lv_aload_n hx hb d_MD_goBack_171 rfl (lv_at hl 3 rfl) ?_
          refine tm_get X h uw_MD 0 rfl rfl 21 (by decide) kw_593 rfl rfl d_MD_goBack_172 ?_
          refine tm_cIf X h (tm_rS X h (c_MD_operated l D cI cZ ad ((((tm_sf u 11 (nI f))).2.1 14 (f))) ((((tm_sf u 11 (nI f))).2.1 15 (f))) ((((tm_sf u 11 (nI f))).1 9)) (tm_sf u 11 (nI f))  _) ks_MD_operated kw_762 rfl rfl ⟨by decide, by decide⟩ rfl hl.1 rfl (Nat.le_of_ble_eq_true rfl) d_MD_goBack_175 ⟨by decide, by decide⟩) (fun H locs h => ?_)
          refine lv_iconst (v := 0) hx hb d_MD_goBack_178 (by decide) ?_
          refine tm_cVf X h (tm_rV (q0 := 0) X h (c_MD_giveBack l D cI cZ ad ((cs_opd ((((tm_sf u 11 (nI f))).2.1 14 (f))) ((((tm_sf u 11 (nI f))).2.1 15 (f))) ((((tm_sf u 11 (nI f))).1 9)))) (0) (tm_sf u 11 (nI f)) (Or.inl rfl) _) ki_MD_giveBack kw_765 rfl rfl rfl rfl rfl ⟨by decide, by decide⟩ rfl hl.1 rfl (Nat.le_of_ble_eq_true rfl) d_MD_goBack_179 ⟨by decide, by decide⟩) (fun H locs h => ?_)
          refine lv_goto hx hb d_MD_goBack_182 (tgt := 260) rfl ?_
          exact tm_vret (w := tm_wM ad cI cZ) (u := (ms_gb (tm_sf u 11 (nI f)) ((cs_opd ((((tm_sf u 11 (nI f))).2.1 14 (f))) ((((tm_sf u 11 (nI f))).2.1 15 (f))) ((((tm_sf u 11 (nI f))).1 9)))) (0))) X h (by unfold ms_bk; rw [if_neg h26t, if_pos h40f, if_neg (fun q => q.elim (fun z => z h49f) (fun z => z h56f))]; rfl) d_MD_goBack_260
  · refine lv_aload_n hx hb d_MD_goBack_29 rfl (lv_at hl 2 rfl) ?_
    refine tm_get X h uw_MD 0 rfl rfl 28 (by decide) kw_600 rfl rfl d_MD_goBack_30 ?_
    refine lv_iload_n hx hb d_MD_goBack_33 rfl (lv_at hl 1 rfl) ?_
    refine tm_zald X h 17 1 rfl rfl (f) (by omega) (rfl) (by decide) d_MD_goBack_34 ?_
    refine lv_if_eq hx hb d_MD_goBack_35 (tgt := 71) rfl (fun h35t => ?_) (fun h35f => ?_)
    · refine lv_iconst (v := 1) hx hb d_MD_goBack_71 (by decide) ?_
      refine lv_goto hx hb d_MD_goBack_72 (tgt := 76) rfl ?_
      refine lv_istore_n hx hb d_MD_goBack_76 rfl hl (by decide) rfl (fun ls (hl : lv_has ls 4 [(3, .int (1)), (2, .int (((u).2.1 12 (f)))), (1, .int (nI f)), (0, .ref (ad 0))]) => ?_)
      refine lv_iload_n hx hb d_MD_goBack_77 rfl (lv_at hl 0 rfl) ?_
      refine lv_if_eq hx hb d_MD_goBack_78 (tgt := 89) rfl (fun q => absurd q ((by decide))) (fun _ => ?_)
      refine lv_aload_n hx hb d_MD_goBack_81 rfl (lv_at hl 3 rfl) ?_
      refine lv_iconst (v := 3) hx hb d_MD_goBack_82 (by decide) ?_
      refine tm_put X h uw_MD t_MD t_MD_ok n_MD 0 rfl rfl 29 (by decide) kw_601 rfl rfl (rfl) (rfl) (Nat.le_of_ble_eq_true rfl) (ws' := tm_wM ad cI cZ (tm_sf u 12 (3))) rfl d_MD_goBack_83 (fun H locs h => ?_)
      refine lv_goto hx hb d_MD_goBack_86 (tgt := 260) rfl ?_
      exact tm_vret (w := tm_wM ad cI cZ) (u := (tm_sf u 12 (3))) X h (by unfold ms_bk; rw [if_pos h26f, if_pos h35t]) d_MD_goBack_260
    · refine lv_iload_n hx hb d_MD_goBack_38 rfl (lv_at hl 0 rfl) ?_
      refine lv_iconst (v := 3) hx hb d_MD_goBack_39 (by decide) ?_
      refine lv_icmp_ne hx hb d_MD_goBack_40 (tgt := 59) rfl (fun _ => ?_) (fun q => absurd q ((fun q => absurd (h26f.symm.trans q) (by decide))))
      refine lv_iload_n hx hb d_MD_goBack_59 rfl (lv_at hl 0 rfl) ?_
      refine lv_iconst (v := 4) hx hb d_MD_goBack_60 (by decide) ?_
      refine lv_icmp_ne hx hb d_MD_goBack_61 (tgt := 75) rfl (fun _ => ?_) (fun q => absurd q ((fun q => absurd (h26f.symm.trans q) (by decide))))
      refine lv_iconst (v := 0) hx hb d_MD_goBack_75 (by decide) ?_
      refine lv_istore_n hx hb d_MD_goBack_76 rfl hl (by decide) rfl (fun ls (hl : lv_has ls 4 [(3, .int (0)), (2, .int (((u).2.1 12 (f)))), (1, .int (nI f)), (0, .ref (ad 0))]) => ?_)
      refine lv_iload_n hx hb d_MD_goBack_77 rfl (lv_at hl 0 rfl) ?_
      refine lv_if_eq hx hb d_MD_goBack_78 (tgt := 89) rfl (fun _ => ?_) (fun q => absurd (rfl) q)
      refine lv_iload_n hx hb d_MD_goBack_89 rfl (lv_at hl 1 rfl) ?_
      refine lv_if_eq hx hb d_MD_goBack_90 (tgt := 98) rfl (fun q => absurd q ((fun q => absurd (h26f.symm.trans q) (by decide)))) (fun _ => ?_)
      refine lv_iload_n hx hb d_MD_goBack_93 rfl (lv_at hl 1 rfl) ?_
      refine lv_iconst (v := 2) hx hb d_MD_goBack_94 (by decide) ?_
      refine lv_icmp_ne hx hb d_MD_goBack_95 (tgt := 143) rfl (fun _ => ?_) (fun q => absurd q ((fun q => absurd (h26f.symm.trans q) (by decide))))
      refine lv_iload_n hx hb d_MD_goBack_143 rfl (lv_at hl 1 rfl) ?_
      refine lv_iconst (v := 3) hx hb d_MD_goBack_144 (by decide) ?_
      refine lv_icmp_ne hx hb d_MD_goBack_145 (tgt := 185) rfl (fun _ => ?_) (fun q => absurd q ((fun q => absurd (h26f.symm.trans q) (by decide))))
      refine lv_iload_n hx hb d_MD_goBack_185 rfl (lv_at hl 1 rfl) ?_
      refine lv_iconst (v := 4) hx hb d_MD_goBack_186 (by decide) ?_
      refine lv_icmp_ne hx hb d_MD_goBack_187 (tgt := 232) rfl (fun _ => ?_) (fun q => absurd q ((fun q => absurd (h26f.symm.trans q) (by decide))))
      have hA := hB.2.2.2.2.2.1 h26f h35f
      refine lv_aload_n hx hb d_MD_goBack_232 rfl (lv_at hl 3 rfl) ?_
      refine lv_dup hx hb d_MD_goBack_233 rfl ?_
      refine tm_get X h uw_MD 0 rfl rfl 23 (by decide) kw_595 rfl rfl d_MD_goBack_234 ?_
      refine lv_iconst (v := 1) hx hb d_MD_goBack_237 (by decide) ?_
      refine lv_isub hx hb d_MD_goBack_238 ?_
      refine tm_top (y := nI f) (by rw [show (u).1 11 = nI (f + 1) from hB.1]; exact nI_pred f) ?_
      refine tm_put X h uw_MD t_MD t_MD_ok n_MD 0 rfl rfl 23 (by decide) kw_595 rfl rfl (rfl) (rfl) (Nat.le_of_ble_eq_true rfl) (ws' := tm_wM ad cI cZ (tm_sf u 11 (nI f))) rfl d_MD_goBack_239 (fun H locs h => ?_)
      refine lv_aload_n hx hb d_MD_goBack_242 rfl (lv_at hl 3 rfl) ?_
      refine lv_aload_n hx hb d_MD_goBack_243 rfl (lv_at hl 3 rfl) ?_
      refine tm_get X h uw_MD 0 rfl rfl 27 (by decide) kw_599 rfl rfl d_MD_goBack_244 ?_
      refine lv_iload_n hx hb d_MD_goBack_247 rfl (lv_at hl 2 rfl) ?_
      refine tm_iald X h 16 0 rfl rfl (f) (by omega) (rfl) (by decide) d_MD_goBack_248 ?_
      refine tm_top (y := nI c) (hA.2.2.2.2.1) ?_
      refine lv_aload_n hx hb d_MD_goBack_249 rfl (lv_at hl 3 rfl) ?_
      refine tm_get X h uw_MD 0 rfl rfl 21 (by decide) kw_593 rfl rfl d_MD_goBack_250 ?_
      refine lv_aload_n hx hb d_MD_goBack_253 rfl (lv_at hl 3 rfl) ?_
      refine tm_get X h uw_MD 0 rfl rfl 22 (by decide) kw_594 rfl rfl d_MD_goBack_254 ?_
      refine tm_cVf X h (tm_rV (q0 := 0) X h (c_MD_apply l D cI cZ ad (c) (e) (v) (b) (u.1 9) (u.1 10) (tm_sf u 11 (nI f)) (hA.1) (hA.2.1) (hA.2.2.1) (hA.2.2.2.1) (hA.2.2.2.2.2.1) (hA.2.2.2.2.2.2.1) (hA.2.2.2.2.2.2.2.1) (hA.2.2.2.2.2.2.2.2) (hB.2.2.1) (hB.2.2.2.1) _) ki_MD_apply kw_769 rfl rfl rfl rfl rfl ⟨by decide, by decide⟩ rfl hl.1 rfl (Nat.le_of_ble_eq_true rfl) d_MD_goBack_257 ⟨by decide, by decide⟩) (fun H locs h => ?_)
      exact tm_vret (w := tm_wM ad cI cZ) (u := (ms_app (tm_sf u 11 (nI f)) (c) (e) (v) (b) (u.1 9) (u.1 10))) X h (by unfold ms_bk; rw [if_pos h26f, if_neg h35f]; rfl) d_MD_goBack_260
theorem d_MD_goBack_11 : decode b_MD_goBack 11 = .ok (.aload_n 0, 1) := by decide +kernel
theorem d_MD_goBack_12 : decode b_MD_goBack 12 = .ok (.iconst 2, 1) := by decide +kernel
theorem d_MD_goBack_13 : decode b_MD_goBack 13 = .ok (.putfield 122, 3) := by decide +kernel
theorem d_MD_goBack_16 : decode b_MD_goBack 16 = .ok (.return_, 1) := by decide +kernel
set_option maxHeartbeats 4000000 in
set_option maxRecDepth 100000 in
theorem c_MD_goBack_0 (l : Launch) (D : va_G) (cI cZ : ClassId) (ad : Nat → Nat)  (u : tm_SC) (h0 : u.1 11 = 0) : tm_V l y_MD_goBack b_MD_goBack 4 ({ frames := 4, cells := 0, slots := 0, locals := 140 } : Room) D (tm_yM cI cZ) (tm_wM ad cI cZ) [.ref (ad 0)] u (fun u' => u' = (tm_sf u 1 2)) := by
  intro sz
  refine tm_of (Qc := fun A => va_Qv (fun u' => u' = (tm_sf u 1 2)) (fun u' t => tm_B D (tm_yM cI cZ) A (tm_wM ad cI cZ u') t) A) (by decide) (Nat.le_of_ble_eq_true rfl) ?_ sz
  intro pg eg sg mg bel met cg A ls X h hl hnm
  have hx := X.1.1
  have hb := X.1.2.1
  have hl : lv_has ls 4 [(0, .ref (ad 0))] := hl
  refine lv_aload_n hx hb d_MD_goBack_0 rfl (lv_at hl 0 rfl) ?_
  refine tm_get X h uw_MD 0 rfl rfl 23 (by decide) kw_595 rfl rfl d_MD_goBack_1 ?_
  refine lv_iconst (v := 1) hx hb d_MD_goBack_4 (by decide) ?_
  refine lv_isub hx hb d_MD_goBack_5 ?_
  refine tm_top (y := (-1)) (by rw [h0]; rfl) ?_
  refine lv_istore_n hx hb d_MD_goBack_6 rfl hl (by decide) rfl (fun ls (hl : lv_has ls 4 [(1, .int ((-1))), (0, .ref (ad 0))]) => ?_)
  refine lv_iload_n hx hb d_MD_goBack_7 rfl (lv_at hl 0 rfl) ?_
  refine lv_if_ge hx hb d_MD_goBack_8 (tgt := 17) rfl (fun q => absurd q (by decide)) (fun _ => ?_)
  refine lv_aload_n hx hb d_MD_goBack_11 rfl (lv_at hl 1 rfl) ?_
  refine lv_iconst (v := 2) hx hb d_MD_goBack_12 (by decide) ?_
  refine tm_put X h uw_MD t_MD t_MD_ok n_MD 0 rfl rfl 13 (by decide) kw_585 rfl rfl (rfl) (rfl) (Nat.le_of_ble_eq_true rfl) (ws' := tm_wM ad cI cZ (tm_sf u 1 (2))) rfl d_MD_goBack_13 (fun H locs h => ?_)
  exact tm_vret (w := tm_wM ad cI cZ) (u := (tm_sf u 1 (2))) X h (rfl) d_MD_goBack_16
theorem d_MD_step_0 : decode b_MD_step 0 = .ok (.aload_n 0, 1) := by decide +kernel
theorem d_MD_step_1 : decode b_MD_step 1 = .ok (.iconst 0, 1) := by decide +kernel
theorem d_MD_step_2 : decode b_MD_step 2 = .ok (.putfield 148, 3) := by decide +kernel
theorem d_MD_step_5 : decode b_MD_step 5 = .ok (.aload_n 0, 1) := by decide +kernel
theorem d_MD_step_6 : decode b_MD_step 6 = .ok (.getfield 97, 3) := by decide +kernel
theorem d_MD_step_9 : decode b_MD_step 9 = .ok (.ifCond .eq 10, 3) := by decide +kernel
theorem d_MD_step_19 : decode b_MD_step 19 = .ok (.aload_n 0, 1) := by decide +kernel
theorem d_MD_step_20 : decode b_MD_step 20 = .ok (.invokevirtual 178, 3) := by decide +kernel
theorem d_MD_step_23 : decode b_MD_step 23 = .ok (.aload_n 0, 1) := by decide +kernel
theorem d_MD_step_24 : decode b_MD_step 24 = .ok (.getfield 148, 3) := by decide +kernel
theorem d_MD_step_27 : decode b_MD_step 27 = .ok (.ifCond .ne 35, 3) := by decide +kernel
theorem d_MD_step_30 : decode b_MD_step 30 = .ok (.aload_n 0, 1) := by decide +kernel
theorem d_MD_step_31 : decode b_MD_step 31 = .ok (.getfield 122, 3) := by decide +kernel
theorem d_MD_step_34 : decode b_MD_step 34 = .ok (.iconst 1, 1) := by decide +kernel
theorem d_MD_step_35 : decode b_MD_step 35 = .ok (.if_icmp .ne 27, 3) := by decide +kernel
theorem d_MD_step_38 : decode b_MD_step 38 = .ok (.aload_n 0, 1) := by decide +kernel
theorem d_MD_step_39 : decode b_MD_step 39 = .ok (.invokevirtual 134, 3) := by decide +kernel
theorem d_MD_step_42 : decode b_MD_step 42 = .ok (.aload_n 0, 1) := by decide +kernel
theorem d_MD_step_43 : decode b_MD_step 43 = .ok (.aload_n 0, 1) := by decide +kernel
theorem d_MD_step_44 : decode b_MD_step 44 = .ok (.getfield 104, 3) := by decide +kernel
theorem d_MD_step_47 : decode b_MD_step 47 = .ok (.aload_n 0, 1) := by decide +kernel
theorem d_MD_step_48 : decode b_MD_step 48 = .ok (.getfield 125, 3) := by decide +kernel
theorem d_MD_step_51 : decode b_MD_step 51 = .ok (.if_icmp .le 7, 3) := by decide +kernel
theorem d_MD_step_54 : decode b_MD_step 54 = .ok (.iconst 4, 1) := by decide +kernel
theorem d_MD_step_55 : decode b_MD_step 55 = .ok (.goto 4, 3) := by decide +kernel
theorem d_MD_step_58 : decode b_MD_step 58 = .ok (.iconst 0, 1) := by decide +kernel
theorem d_MD_step_59 : decode b_MD_step 59 = .ok (.putfield 148, 3) := by decide +kernel
theorem d_MD_step_62 : decode b_MD_step 62 = .ok (.aload_n 0, 1) := by decide +kernel
theorem d_MD_step_63 : decode b_MD_step 63 = .ok (.getfield 148, 3) := by decide +kernel
theorem d_MD_step_66 : decode b_MD_step 66 = .ok (.ifCond .eq 10, 3) := by decide +kernel
theorem d_MD_step_69 : decode b_MD_step 69 = .ok (.aload_n 0, 1) := by decide +kernel
theorem d_MD_step_70 : decode b_MD_step 70 = .ok (.iconst 3, 1) := by decide +kernel
theorem d_MD_step_71 : decode b_MD_step 71 = .ok (.putfield 122, 3) := by decide +kernel
theorem d_MD_step_74 : decode b_MD_step 74 = .ok (.iconst 0, 1) := by decide +kernel
theorem d_MD_step_75 : decode b_MD_step 75 = .ok (.ireturn, 1) := by decide +kernel
theorem d_MD_step_76 : decode b_MD_step 76 = .ok (.aload_n 0, 1) := by decide +kernel
theorem d_MD_step_77 : decode b_MD_step 77 = .ok (.dup, 1) := by decide +kernel
theorem d_MD_step_78 : decode b_MD_step 78 = .ok (.getfield 128, 3) := by decide +kernel
theorem d_MD_step_81 : decode b_MD_step 81 = .ok (.iconst 1, 1) := by decide +kernel
theorem d_MD_step_82 : decode b_MD_step 82 = .ok (.iadd, 1) := by decide +kernel
theorem d_MD_step_83 : decode b_MD_step 83 = .ok (.putfield 128, 3) := by decide +kernel
theorem d_MD_step_86 : decode b_MD_step 86 = .ok (.aload_n 0, 1) := by decide +kernel
theorem d_MD_step_87 : decode b_MD_step 87 = .ok (.aload_n 0, 1) := by decide +kernel
theorem d_MD_step_88 : decode b_MD_step 88 = .ok (.getfield 122, 3) := by decide +kernel
theorem d_MD_step_91 : decode b_MD_step 91 = .ok (.iconst 1, 1) := by decide +kernel
theorem d_MD_step_92 : decode b_MD_step 92 = .ok (.if_icmp .ne 17, 3) := by decide +kernel
theorem d_MD_step_95 : decode b_MD_step 95 = .ok (.aload_n 0, 1) := by decide +kernel
theorem d_MD_step_96 : decode b_MD_step 96 = .ok (.getfield 137, 3) := by decide +kernel
theorem d_MD_step_99 : decode b_MD_step 99 = .ok (.aload_n 0, 1) := by decide +kernel
theorem d_MD_step_100 : decode b_MD_step 100 = .ok (.getfield 104, 3) := by decide +kernel
theorem d_MD_step_103 : decode b_MD_step 103 = .ok (.invokestatic 87, 3) := by decide +kernel
theorem d_MD_step_106 : decode b_MD_step 106 = .ok (.goto 7, 3) := by decide +kernel
theorem d_MD_step_109 : decode b_MD_step 109 = .ok (.aload_n 0, 1) := by decide +kernel
theorem d_MD_step_110 : decode b_MD_step 110 = .ok (.getfield 137, 3) := by decide +kernel
theorem d_MD_step_113 : decode b_MD_step 113 = .ok (.putfield 137, 3) := by decide +kernel
theorem d_MD_step_116 : decode b_MD_step 116 = .ok (.iconst 1, 1) := by decide +kernel
theorem d_MD_step_117 : decode b_MD_step 117 = .ok (.ireturn, 1) := by decide +kernel
set_option maxHeartbeats 4000000 in
set_option maxRecDepth 100000 in
theorem c_MD_step_ev (l : Launch) (D : va_G) (cI cZ : ClassId) (ad : Nat → Nat) (e : Nat) (F : Nat) (c : Nat) (F2 : Nat) (L : Nat → Prop) (u : tm_SC) (h7 : u.1 7 = 0) (hE : ms_EI (tm_sf u 12 0) e F c) (hM : (ms_evl (tm_sf u 12 0) e F c).1 12 = 0 → (ms_evl (tm_sf u 12 0) e F c).1 1 = 1 → ms_MI (ms_evl (tm_sf u 12 0) e F c) F2 L) : tm_I l y_MD_step b_MD_step 1 .boolean ({ frames := 5, cells := 0, slots := 0, locals := 170 } : Room) D (tm_yM cI cZ) (tm_wM ad cI cZ) [.ref (ad 0)] u (fun r u' => ms_fin (ms_evl (tm_sf u 12 0) e F c) F2 L r u') := by
  intro sz
  refine tm_of (Qc := fun A => va_Qi (fun r u' => ms_fin (ms_evl (tm_sf u 12 0) e F c) F2 L r u') (fun u' t => tm_B D (tm_yM cI cZ) A (tm_wM ad cI cZ u') t) A) (by decide) (Nat.le_of_ble_eq_true rfl) ?_ sz
  intro pg eg sg mg bel met cg A ls X h hl hnm
  have hx := X.1.1
  have hb := X.1.2.1
  have hl : lv_has ls 1 [(0, .ref (ad 0))] := hl
  refine lv_aload_n hx hb d_MD_step_0 rfl (lv_at hl 0 rfl) ?_
  refine lv_iconst (v := 0) hx hb d_MD_step_1 (by decide) ?_
  refine tm_put X h uw_MD t_MD t_MD_ok n_MD 0 rfl rfl 29 (by decide) kw_601 rfl rfl (rfl) (rfl) (Nat.le_of_ble_eq_true rfl) (ws' := tm_wM ad cI cZ (tm_sf u 12 (0))) rfl d_MD_step_2 (fun H locs h => ?_)
  refine lv_aload_n hx hb d_MD_step_5 rfl (lv_at hl 0 rfl) ?_
  refine tm_get X h uw_MD 0 rfl rfl 19 (by decide) kw_591 rfl rfl d_MD_step_6 ?_
  refine tm_top (y := u.1 7) (rfl) ?_
  refine lv_if_eq hx hb d_MD_step_9 (tgt := 19) rfl (fun _ => ?_) (fun q => absurd (h7) q)
  refine lv_aload_n hx hb d_MD_step_19 rfl (lv_at hl 0 rfl) ?_
  refine tm_cVf X h (tm_rV (q0 := 0) X h (c_MD_evaluate l D cI cZ ad (e) (F) (c) (tm_sf u 12 (0)) (hE) _) ki_MD_evaluate kw_777 rfl rfl rfl rfl rfl ⟨by decide, by decide⟩ rfl hl.1 rfl (Nat.le_of_ble_eq_true rfl) d_MD_step_20 ⟨by decide, by decide⟩) (fun H locs h => ?_)
  have h : tm_H D A sg (tm_wM ad cI cZ (ms_evl (tm_sf u 12 0) e F c)) _ _ := h
  refine lv_aload_n hx hb d_MD_step_23 rfl (lv_at hl 0 rfl) ?_
  refine tm_get X h uw_MD 0 rfl rfl 29 (by decide) kw_601 rfl rfl d_MD_step_24 ?_
  refine lv_if_ne hx hb d_MD_step_27 (tgt := 62) rfl (fun h27t => ?_) (fun h27f => ?_)
  · refine lv_aload_n hx hb d_MD_step_62 rfl (lv_at hl 0 rfl) ?_
    refine tm_get X h uw_MD 0 rfl rfl 29 (by decide) kw_601 rfl rfl d_MD_step_63 ?_
    refine lv_if_eq hx hb d_MD_step_66 (tgt := 76) rfl (fun q => absurd q (h27t)) (fun _ => ?_)
    refine lv_aload_n hx hb d_MD_step_69 rfl (lv_at hl 0 rfl) ?_
    refine lv_iconst (v := 3) hx hb d_MD_step_70 (by decide) ?_
    refine tm_put X h uw_MD t_MD t_MD_ok n_MD 0 rfl rfl 13 (by decide) kw_585 rfl rfl (rfl) (rfl) (Nat.le_of_ble_eq_true rfl) (ws' := tm_wM ad cI cZ (tm_sf (ms_evl (tm_sf u 12 0) e F c) 1 (3))) rfl d_MD_step_71 (fun H locs h => ?_)
    refine lv_iconst (v := 0) hx hb d_MD_step_74 (by decide) ?_
    exact tm_zret (w := tm_wM ad cI cZ) (u := (tm_sf (ms_evl (tm_sf u 12 0) e F c) 1 (3))) X h (rfl) (Or.inl ⟨h27t, rfl, rfl⟩) d_MD_step_75
  · refine lv_aload_n hx hb d_MD_step_30 rfl (lv_at hl 0 rfl) ?_
    refine tm_get X h uw_MD 0 rfl rfl 13 (by decide) kw_585 rfl rfl d_MD_step_31 ?_
    refine lv_iconst (v := 1) hx hb d_MD_step_34 (by decide) ?_
    refine lv_icmp_ne hx hb d_MD_step_35 (tgt := 62) rfl (fun h35t => ?_) (fun h35f => ?_)
    · refine lv_aload_n hx hb d_MD_step_62 rfl (lv_at hl 0 rfl) ?_
      refine tm_get X h uw_MD 0 rfl rfl 29 (by decide) kw_601 rfl rfl d_MD_step_63 ?_
      refine lv_if_eq hx hb d_MD_step_66 (tgt := 76) rfl (fun _ => ?_) (fun q => absurd (h27f) q)
      refine lv_aload_n hx hb d_MD_step_76 rfl (lv_at hl 0 rfl) ?_
      refine lv_dup hx hb d_MD_step_77 rfl ?_
      refine tm_get X h uw_MD 0 rfl rfl 15 (by decide) kw_587 rfl rfl d_MD_step_78 ?_
      refine lv_iconst (v := 1) hx hb d_MD_step_81 (by decide) ?_
      refine lv_iadd hx hb d_MD_step_82 ?_
      refine tm_put X h uw_MD t_MD t_MD_ok n_MD 0 rfl rfl 15 (by decide) kw_587 rfl rfl (rfl) (rfl) (Nat.le_of_ble_eq_true rfl) (ws' := tm_wM ad cI cZ (tm_sf (ms_evl (tm_sf u 12 0) e F c) 3 (((((ms_evl (tm_sf u 12 0) e F c)).1 3) + 1)))) rfl d_MD_step_83 (fun H locs h => ?_)
      refine lv_aload_n hx hb d_MD_step_86 rfl (lv_at hl 0 rfl) ?_
      refine lv_aload_n hx hb d_MD_step_87 rfl (lv_at hl 0 rfl) ?_
      refine tm_get X h uw_MD 0 rfl rfl 13 (by decide) kw_585 rfl rfl d_MD_step_88 ?_
      refine lv_iconst (v := 1) hx hb d_MD_step_91 (by decide) ?_
      refine lv_icmp_ne hx hb d_MD_step_92 (tgt := 109) rfl (fun _ => ?_) (fun q => absurd q (h35t))
      refine lv_aload_n hx hb d_MD_step_109 rfl (lv_at hl 0 rfl) ?_
      refine tm_get X h uw_MD 0 rfl rfl 16 (by decide) kw_588 rfl rfl d_MD_step_110 ?_
      refine tm_put X h uw_MD t_MD t_MD_ok n_MD 0 rfl rfl 16 (by decide) kw_588 rfl rfl (rfl) (rfl) (Nat.le_of_ble_eq_true rfl) (ws' := tm_wM ad cI cZ (tm_sf (tm_sf (ms_evl (tm_sf u 12 0) e F c) 3 (((((ms_evl (tm_sf u 12 0) e F c)).1 3) + 1))) 4 ((((tm_sf (ms_evl (tm_sf u 12 0) e F c) 3 (((((ms_evl (tm_sf u 12 0) e F c)).1 3) + 1)))).1 4)))) rfl d_MD_step_113 (fun H locs h => ?_)
      refine lv_iconst (v := 1) hx hb d_MD_step_116 (by decide) ?_
      exact tm_zret (w := tm_wM ad cI cZ) (u := (tm_sf (tm_sf (ms_evl (tm_sf u 12 0) e F c) 3 (((((ms_evl (tm_sf u 12 0) e F c)).1 3) + 1))) 4 ((((tm_sf (ms_evl (tm_sf u 12 0) e F c) 3 (((((ms_evl (tm_sf u 12 0) e F c)).1 3) + 1)))).1 4)))) X h (rfl) (Or.inr (Or.inr ⟨h27f, h35t, rfl, rfl⟩)) d_MD_step_117
    · refine lv_aload_n hx hb d_MD_step_38 rfl (lv_at hl 0 rfl) ?_
      refine tm_cV X h (tm_rV (q0 := 0) X h (c_MD_measure l D cI cZ ad (F2) (L) (ms_evl (tm_sf u 12 0) e F c) (hM h27f h35f) _) ki_MD_measure kw_724 rfl rfl rfl rfl rfl ⟨by decide, by decide⟩ rfl hl.1 rfl (Nat.le_of_ble_eq_true rfl) d_MD_step_39 ⟨by decide, by decide⟩) (fun u39 H locs hp39 h => ?_)
      have he39 : ms_eq (ms_evl (tm_sf u 12 0) e F c) u39 := by obtain ⟨_, _, _, _, q⟩ := hp39; exact q
      refine lv_aload_n hx hb d_MD_step_42 rfl (lv_at hl 0 rfl) ?_
      refine lv_aload_n hx hb d_MD_step_43 rfl (lv_at hl 0 rfl) ?_
      refine tm_get X h uw_MD 0 rfl rfl 17 (by decide) kw_589 rfl rfl d_MD_step_44 ?_
      refine lv_aload_n hx hb d_MD_step_47 rfl (lv_at hl 0 rfl) ?_
      refine tm_get X h uw_MD 0 rfl rfl 14 (by decide) kw_586 rfl rfl d_MD_step_48 ?_
      refine lv_icmp_le hx hb d_MD_step_51 (tgt := 58) rfl (fun h51t => ?_) (fun h51f => ?_)
      · refine lv_iconst (v := 0) hx hb d_MD_step_58 (by decide) ?_
        refine tm_put X h uw_MD t_MD t_MD_ok n_MD 0 rfl rfl 29 (by decide) kw_601 rfl rfl (rfl) (rfl) (Nat.le_of_ble_eq_true rfl) (ws' := tm_wM ad cI cZ (tm_sf u39 12 (0))) rfl d_MD_step_59 (fun H locs h => ?_)
        refine lv_aload_n hx hb d_MD_step_62 rfl (lv_at hl 0 rfl) ?_
        refine tm_get X h uw_MD 0 rfl rfl 29 (by decide) kw_601 rfl rfl d_MD_step_63 ?_
        refine lv_if_eq hx hb d_MD_step_66 (tgt := 76) rfl (fun _ => ?_) (fun q => absurd (rfl) q)
        refine lv_aload_n hx hb d_MD_step_76 rfl (lv_at hl 0 rfl) ?_
        refine lv_dup hx hb d_MD_step_77 rfl ?_
        refine tm_get X h uw_MD 0 rfl rfl 15 (by decide) kw_587 rfl rfl d_MD_step_78 ?_
        refine lv_iconst (v := 1) hx hb d_MD_step_81 (by decide) ?_
        refine lv_iadd hx hb d_MD_step_82 ?_
        refine tm_put X h uw_MD t_MD t_MD_ok n_MD 0 rfl rfl 15 (by decide) kw_587 rfl rfl (rfl) (rfl) (Nat.le_of_ble_eq_true rfl) (ws' := tm_wM ad cI cZ (tm_sf (tm_sf u39 12 (0)) 3 (((((tm_sf u39 12 (0))).1 3) + 1)))) rfl d_MD_step_83 (fun H locs h => ?_)
        refine lv_aload_n hx hb d_MD_step_86 rfl (lv_at hl 0 rfl) ?_
        refine lv_aload_n hx hb d_MD_step_87 rfl (lv_at hl 0 rfl) ?_
        refine tm_get X h uw_MD 0 rfl rfl 13 (by decide) kw_585 rfl rfl d_MD_step_88 ?_
        refine lv_iconst (v := 1) hx hb d_MD_step_91 (by decide) ?_
        refine lv_icmp_ne hx hb d_MD_step_92 (tgt := 109) rfl (fun q => absurd ((he39.2 1 (by decide) (by decide)).trans h35f) q) (fun _ => ?_)
        refine lv_aload_n hx hb d_MD_step_95 rfl (lv_at hl 0 rfl) ?_
        refine tm_get X h uw_MD 0 rfl rfl 16 (by decide) kw_588 rfl rfl d_MD_step_96 ?_
        refine lv_aload_n hx hb d_MD_step_99 rfl (lv_at hl 0 rfl) ?_
        refine tm_get X h uw_MD 0 rfl rfl 17 (by decide) kw_589 rfl rfl d_MD_step_100 ?_
        refine tm_cIf X h (tm_rS X h (c_MD_greatest l D cI cZ ad ((((tm_sf (tm_sf u39 12 (0)) 3 (((((tm_sf u39 12 (0))).1 3) + 1)))).1 4)) ((((tm_sf (tm_sf u39 12 (0)) 3 (((((tm_sf u39 12 (0))).1 3) + 1)))).1 5)) (tm_sf (tm_sf u39 12 (0)) 3 (((((tm_sf u39 12 (0))).1 3) + 1)))  _) ks_MD_greatest kw_705 rfl rfl ⟨by decide, by decide⟩ rfl hl.1 rfl (Nat.le_of_ble_eq_true rfl) d_MD_step_103 ⟨by decide, by decide⟩) (fun H locs h => ?_)
        refine lv_goto hx hb d_MD_step_106 (tgt := 113) rfl ?_
        refine tm_put X h uw_MD t_MD t_MD_ok n_MD 0 rfl rfl 16 (by decide) kw_588 rfl rfl (rfl) (rfl) (Nat.le_of_ble_eq_true rfl) (ws' := tm_wM ad cI cZ (tm_sf (tm_sf (tm_sf u39 12 (0)) 3 (((((tm_sf u39 12 (0))).1 3) + 1))) 4 ((ms_gr ((((tm_sf (tm_sf u39 12 (0)) 3 (((((tm_sf u39 12 (0))).1 3) + 1)))).1 4)) ((((tm_sf (tm_sf u39 12 (0)) 3 (((((tm_sf u39 12 (0))).1 3) + 1)))).1 5)))))) rfl d_MD_step_113 (fun H locs h => ?_)
        refine lv_iconst (v := 1) hx hb d_MD_step_116 (by decide) ?_
        exact tm_zret (w := tm_wM ad cI cZ) (u := (tm_sf (tm_sf (tm_sf u39 12 (0)) 3 (((((tm_sf u39 12 (0))).1 3) + 1))) 4 ((ms_gr ((((tm_sf (tm_sf u39 12 (0)) 3 (((((tm_sf u39 12 (0))).1 3) + 1)))).1 4)) ((((tm_sf (tm_sf u39 12 (0)) 3 (((((tm_sf u39 12 (0))).1 3) + 1)))).1 5)))))) X h (rfl) (Or.inr (Or.inl ⟨h27f, h35f, u39, hp39, Or.inr ⟨Int32.not_lt.mpr h51t, rfl, rfl⟩⟩)) d_MD_step_117
      · refine lv_iconst (v := 4) hx hb d_MD_step_54 (by decide) ?_
        refine lv_goto hx hb d_MD_step_55 (tgt := 59) rfl ?_
        refine tm_put X h uw_MD t_MD t_MD_ok n_MD 0 rfl rfl 29 (by decide) kw_601 rfl rfl (rfl) (rfl) (Nat.le_of_ble_eq_true rfl) (ws' := tm_wM ad cI cZ (tm_sf u39 12 (4))) rfl d_MD_step_59 (fun H locs h => ?_)
        refine lv_aload_n hx hb d_MD_step_62 rfl (lv_at hl 0 rfl) ?_
        refine tm_get X h uw_MD 0 rfl rfl 29 (by decide) kw_601 rfl rfl d_MD_step_63 ?_
        refine lv_if_eq hx hb d_MD_step_66 (tgt := 76) rfl (fun q => absurd q ((fun z => absurd (show (4 : Int32) = 0 from z) (by decide)))) (fun _ => ?_)
        refine lv_aload_n hx hb d_MD_step_69 rfl (lv_at hl 0 rfl) ?_
        refine lv_iconst (v := 3) hx hb d_MD_step_70 (by decide) ?_
        refine tm_put X h uw_MD t_MD t_MD_ok n_MD 0 rfl rfl 13 (by decide) kw_585 rfl rfl (rfl) (rfl) (Nat.le_of_ble_eq_true rfl) (ws' := tm_wM ad cI cZ (tm_sf (tm_sf u39 12 (4)) 1 (3))) rfl d_MD_step_71 (fun H locs h => ?_)
        refine lv_iconst (v := 0) hx hb d_MD_step_74 (by decide) ?_
        exact tm_zret (w := tm_wM ad cI cZ) (u := (tm_sf (tm_sf u39 12 (4)) 1 (3))) X h (rfl) (Or.inr (Or.inl ⟨h27f, h35f, u39, hp39, Or.inl ⟨Int32.not_le.mp h51f, rfl, rfl⟩⟩)) d_MD_step_75
theorem d_MD_step_12 : decode b_MD_step 12 = .ok (.aload_n 0, 1) := by decide +kernel
theorem d_MD_step_13 : decode b_MD_step 13 = .ok (.invokevirtual 175, 3) := by decide +kernel
theorem d_MD_step_16 : decode b_MD_step 16 = .ok (.goto 7, 3) := by decide +kernel
set_option maxHeartbeats 4000000 in
set_option maxRecDepth 100000 in
theorem c_MD_step_bk (l : Launch) (D : va_G) (cI cZ : ClassId) (ad : Nat → Nat) (f : Nat) (c : Nat) (e : Nat) (v : Nat) (b : Nat) (F2 : Nat) (L : Nat → Prop) (u : tm_SC) (h7 : ¬ u.1 7 = 0) (hB : ms_BI (tm_sf u 12 0) f c e v b) (hM : (ms_bk (tm_sf u 12 0) f c e v b).1 12 = 0 → (ms_bk (tm_sf u 12 0) f c e v b).1 1 = 1 → ms_MI (ms_bk (tm_sf u 12 0) f c e v b) F2 L) : tm_I l y_MD_step b_MD_step 1 .boolean ({ frames := 5, cells := 0, slots := 0, locals := 170 } : Room) D (tm_yM cI cZ) (tm_wM ad cI cZ) [.ref (ad 0)] u (fun r u' => ms_fin (ms_bk (tm_sf u 12 0) f c e v b) F2 L r u') := by
  intro sz
  refine tm_of (Qc := fun A => va_Qi (fun r u' => ms_fin (ms_bk (tm_sf u 12 0) f c e v b) F2 L r u') (fun u' t => tm_B D (tm_yM cI cZ) A (tm_wM ad cI cZ u') t) A) (by decide) (Nat.le_of_ble_eq_true rfl) ?_ sz
  intro pg eg sg mg bel met cg A ls X h hl hnm
  have hx := X.1.1
  have hb := X.1.2.1
  have hl : lv_has ls 1 [(0, .ref (ad 0))] := hl
  refine lv_aload_n hx hb d_MD_step_0 rfl (lv_at hl 0 rfl) ?_
  refine lv_iconst (v := 0) hx hb d_MD_step_1 (by decide) ?_
  refine tm_put X h uw_MD t_MD t_MD_ok n_MD 0 rfl rfl 29 (by decide) kw_601 rfl rfl (rfl) (rfl) (Nat.le_of_ble_eq_true rfl) (ws' := tm_wM ad cI cZ (tm_sf u 12 (0))) rfl d_MD_step_2 (fun H locs h => ?_)
  refine lv_aload_n hx hb d_MD_step_5 rfl (lv_at hl 0 rfl) ?_
  refine tm_get X h uw_MD 0 rfl rfl 19 (by decide) kw_591 rfl rfl d_MD_step_6 ?_
  refine tm_top (y := u.1 7) (rfl) ?_
  refine lv_if_eq hx hb d_MD_step_9 (tgt := 19) rfl (fun q => absurd q (h7)) (fun _ => ?_)
  refine lv_aload_n hx hb d_MD_step_12 rfl (lv_at hl 0 rfl) ?_
  refine tm_cVf X h (tm_rV (q0 := 0) X h (c_MD_goBack l D cI cZ ad (f) (c) (e) (v) (b) (tm_sf u 12 (0)) (hB) _) ki_MD_goBack kw_750 rfl rfl rfl rfl rfl ⟨by decide, by decide⟩ rfl hl.1 rfl (Nat.le_of_ble_eq_true rfl) d_MD_step_13 ⟨by decide, by decide⟩) (fun H locs h => ?_)
  refine lv_goto hx hb d_MD_step_16 (tgt := 23) rfl ?_
  have h : tm_H D A sg (tm_wM ad cI cZ (ms_bk (tm_sf u 12 0) f c e v b)) _ _ := h
  refine lv_aload_n hx hb d_MD_step_23 rfl (lv_at hl 0 rfl) ?_
  refine tm_get X h uw_MD 0 rfl rfl 29 (by decide) kw_601 rfl rfl d_MD_step_24 ?_
  refine lv_if_ne hx hb d_MD_step_27 (tgt := 62) rfl (fun h27t => ?_) (fun h27f => ?_)
  · refine lv_aload_n hx hb d_MD_step_62 rfl (lv_at hl 0 rfl) ?_
    refine tm_get X h uw_MD 0 rfl rfl 29 (by decide) kw_601 rfl rfl d_MD_step_63 ?_
    refine lv_if_eq hx hb d_MD_step_66 (tgt := 76) rfl (fun q => absurd q (h27t)) (fun _ => ?_)
    refine lv_aload_n hx hb d_MD_step_69 rfl (lv_at hl 0 rfl) ?_
    refine lv_iconst (v := 3) hx hb d_MD_step_70 (by decide) ?_
    refine tm_put X h uw_MD t_MD t_MD_ok n_MD 0 rfl rfl 13 (by decide) kw_585 rfl rfl (rfl) (rfl) (Nat.le_of_ble_eq_true rfl) (ws' := tm_wM ad cI cZ (tm_sf (ms_bk (tm_sf u 12 0) f c e v b) 1 (3))) rfl d_MD_step_71 (fun H locs h => ?_)
    refine lv_iconst (v := 0) hx hb d_MD_step_74 (by decide) ?_
    exact tm_zret (w := tm_wM ad cI cZ) (u := (tm_sf (ms_bk (tm_sf u 12 0) f c e v b) 1 (3))) X h (rfl) (Or.inl ⟨h27t, rfl, rfl⟩) d_MD_step_75
  · refine lv_aload_n hx hb d_MD_step_30 rfl (lv_at hl 0 rfl) ?_
    refine tm_get X h uw_MD 0 rfl rfl 13 (by decide) kw_585 rfl rfl d_MD_step_31 ?_
    refine lv_iconst (v := 1) hx hb d_MD_step_34 (by decide) ?_
    refine lv_icmp_ne hx hb d_MD_step_35 (tgt := 62) rfl (fun h35t => ?_) (fun h35f => ?_)
    · refine lv_aload_n hx hb d_MD_step_62 rfl (lv_at hl 0 rfl) ?_
      refine tm_get X h uw_MD 0 rfl rfl 29 (by decide) kw_601 rfl rfl d_MD_step_63 ?_
      refine lv_if_eq hx hb d_MD_step_66 (tgt := 76) rfl (fun _ => ?_) (fun q => absurd (h27f) q)
      refine lv_aload_n hx hb d_MD_step_76 rfl (lv_at hl 0 rfl) ?_
      refine lv_dup hx hb d_MD_step_77 rfl ?_
      refine tm_get X h uw_MD 0 rfl rfl 15 (by decide) kw_587 rfl rfl d_MD_step_78 ?_
      refine lv_iconst (v := 1) hx hb d_MD_step_81 (by decide) ?_
      refine lv_iadd hx hb d_MD_step_82 ?_
      refine tm_put X h uw_MD t_MD t_MD_ok n_MD 0 rfl rfl 15 (by decide) kw_587 rfl rfl (rfl) (rfl) (Nat.le_of_ble_eq_true rfl) (ws' := tm_wM ad cI cZ (tm_sf (ms_bk (tm_sf u 12 0) f c e v b) 3 (((((ms_bk (tm_sf u 12 0) f c e v b)).1 3) + 1)))) rfl d_MD_step_83 (fun H locs h => ?_)
      refine lv_aload_n hx hb d_MD_step_86 rfl (lv_at hl 0 rfl) ?_
      refine lv_aload_n hx hb d_MD_step_87 rfl (lv_at hl 0 rfl) ?_
      refine tm_get X h uw_MD 0 rfl rfl 13 (by decide) kw_585 rfl rfl d_MD_step_88 ?_
      refine lv_iconst (v := 1) hx hb d_MD_step_91 (by decide) ?_
      refine lv_icmp_ne hx hb d_MD_step_92 (tgt := 109) rfl (fun _ => ?_) (fun q => absurd q (h35t))
      refine lv_aload_n hx hb d_MD_step_109 rfl (lv_at hl 0 rfl) ?_
      refine tm_get X h uw_MD 0 rfl rfl 16 (by decide) kw_588 rfl rfl d_MD_step_110 ?_
      refine tm_put X h uw_MD t_MD t_MD_ok n_MD 0 rfl rfl 16 (by decide) kw_588 rfl rfl (rfl) (rfl) (Nat.le_of_ble_eq_true rfl) (ws' := tm_wM ad cI cZ (tm_sf (tm_sf (ms_bk (tm_sf u 12 0) f c e v b) 3 (((((ms_bk (tm_sf u 12 0) f c e v b)).1 3) + 1))) 4 ((((tm_sf (ms_bk (tm_sf u 12 0) f c e v b) 3 (((((ms_bk (tm_sf u 12 0) f c e v b)).1 3) + 1)))).1 4)))) rfl d_MD_step_113 (fun H locs h => ?_)
      refine lv_iconst (v := 1) hx hb d_MD_step_116 (by decide) ?_
      exact tm_zret (w := tm_wM ad cI cZ) (u := (tm_sf (tm_sf (ms_bk (tm_sf u 12 0) f c e v b) 3 (((((ms_bk (tm_sf u 12 0) f c e v b)).1 3) + 1))) 4 ((((tm_sf (ms_bk (tm_sf u 12 0) f c e v b) 3 (((((ms_bk (tm_sf u 12 0) f c e v b)).1 3) + 1)))).1 4)))) X h (rfl) (Or.inr (Or.inr ⟨h27f, h35t, rfl, rfl⟩)) d_MD_step_117
    · refine lv_aload_n hx hb d_MD_step_38 rfl (lv_at hl 0 rfl) ?_
      refine tm_cV X h (tm_rV (q0 := 0) X h (c_MD_measure l D cI cZ ad (F2) (L) (ms_bk (tm_sf u 12 0) f c e v b) (hM h27f h35f) _) ki_MD_measure kw_724 rfl rfl rfl rfl rfl ⟨by decide, by decide⟩ rfl hl.1 rfl (Nat.le_of_ble_eq_true rfl) d_MD_step_39 ⟨by decide, by decide⟩) (fun u39 H locs hp39 h => ?_)
      have he39 : ms_eq (ms_bk (tm_sf u 12 0) f c e v b) u39 := by obtain ⟨_, _, _, _, q⟩ := hp39; exact q
      refine lv_aload_n hx hb d_MD_step_42 rfl (lv_at hl 0 rfl) ?_
      refine lv_aload_n hx hb d_MD_step_43 rfl (lv_at hl 0 rfl) ?_
      refine tm_get X h uw_MD 0 rfl rfl 17 (by decide) kw_589 rfl rfl d_MD_step_44 ?_
      refine lv_aload_n hx hb d_MD_step_47 rfl (lv_at hl 0 rfl) ?_
      refine tm_get X h uw_MD 0 rfl rfl 14 (by decide) kw_586 rfl rfl d_MD_step_48 ?_
      refine lv_icmp_le hx hb d_MD_step_51 (tgt := 58) rfl (fun h51t => ?_) (fun h51f => ?_)
      · refine lv_iconst (v := 0) hx hb d_MD_step_58 (by decide) ?_
        refine tm_put X h uw_MD t_MD t_MD_ok n_MD 0 rfl rfl 29 (by decide) kw_601 rfl rfl (rfl) (rfl) (Nat.le_of_ble_eq_true rfl) (ws' := tm_wM ad cI cZ (tm_sf u39 12 (0))) rfl d_MD_step_59 (fun H locs h => ?_)
        refine lv_aload_n hx hb d_MD_step_62 rfl (lv_at hl 0 rfl) ?_
        refine tm_get X h uw_MD 0 rfl rfl 29 (by decide) kw_601 rfl rfl d_MD_step_63 ?_
        refine lv_if_eq hx hb d_MD_step_66 (tgt := 76) rfl (fun _ => ?_) (fun q => absurd (rfl) q)
        refine lv_aload_n hx hb d_MD_step_76 rfl (lv_at hl 0 rfl) ?_
        refine lv_dup hx hb d_MD_step_77 rfl ?_
        refine tm_get X h uw_MD 0 rfl rfl 15 (by decide) kw_587 rfl rfl d_MD_step_78 ?_
        refine lv_iconst (v := 1) hx hb d_MD_step_81 (by decide) ?_
        refine lv_iadd hx hb d_MD_step_82 ?_
        refine tm_put X h uw_MD t_MD t_MD_ok n_MD 0 rfl rfl 15 (by decide) kw_587 rfl rfl (rfl) (rfl) (Nat.le_of_ble_eq_true rfl) (ws' := tm_wM ad cI cZ (tm_sf (tm_sf u39 12 (0)) 3 (((((tm_sf u39 12 (0))).1 3) + 1)))) rfl d_MD_step_83 (fun H locs h => ?_)
        refine lv_aload_n hx hb d_MD_step_86 rfl (lv_at hl 0 rfl) ?_
        refine lv_aload_n hx hb d_MD_step_87 rfl (lv_at hl 0 rfl) ?_
        refine tm_get X h uw_MD 0 rfl rfl 13 (by decide) kw_585 rfl rfl d_MD_step_88 ?_
        refine lv_iconst (v := 1) hx hb d_MD_step_91 (by decide) ?_
        refine lv_icmp_ne hx hb d_MD_step_92 (tgt := 109) rfl (fun q => absurd ((he39.2 1 (by decide) (by decide)).trans h35f) q) (fun _ => ?_)
        refine lv_aload_n hx hb d_MD_step_95 rfl (lv_at hl 0 rfl) ?_
        refine tm_get X h uw_MD 0 rfl rfl 16 (by decide) kw_588 rfl rfl d_MD_step_96 ?_
        refine lv_aload_n hx hb d_MD_step_99 rfl (lv_at hl 0 rfl) ?_
        refine tm_get X h uw_MD 0 rfl rfl 17 (by decide) kw_589 rfl rfl d_MD_step_100 ?_
        refine tm_cIf X h (tm_rS X h (c_MD_greatest l D cI cZ ad ((((tm_sf (tm_sf u39 12 (0)) 3 (((((tm_sf u39 12 (0))).1 3) + 1)))).1 4)) ((((tm_sf (tm_sf u39 12 (0)) 3 (((((tm_sf u39 12 (0))).1 3) + 1)))).1 5)) (tm_sf (tm_sf u39 12 (0)) 3 (((((tm_sf u39 12 (0))).1 3) + 1)))  _) ks_MD_greatest kw_705 rfl rfl ⟨by decide, by decide⟩ rfl hl.1 rfl (Nat.le_of_ble_eq_true rfl) d_MD_step_103 ⟨by decide, by decide⟩) (fun H locs h => ?_)
        refine lv_goto hx hb d_MD_step_106 (tgt := 113) rfl ?_
        refine tm_put X h uw_MD t_MD t_MD_ok n_MD 0 rfl rfl 16 (by decide) kw_588 rfl rfl (rfl) (rfl) (Nat.le_of_ble_eq_true rfl) (ws' := tm_wM ad cI cZ (tm_sf (tm_sf (tm_sf u39 12 (0)) 3 (((((tm_sf u39 12 (0))).1 3) + 1))) 4 ((ms_gr ((((tm_sf (tm_sf u39 12 (0)) 3 (((((tm_sf u39 12 (0))).1 3) + 1)))).1 4)) ((((tm_sf (tm_sf u39 12 (0)) 3 (((((tm_sf u39 12 (0))).1 3) + 1)))).1 5)))))) rfl d_MD_step_113 (fun H locs h => ?_)
        refine lv_iconst (v := 1) hx hb d_MD_step_116 (by decide) ?_
        exact tm_zret (w := tm_wM ad cI cZ) (u := (tm_sf (tm_sf (tm_sf u39 12 (0)) 3 (((((tm_sf u39 12 (0))).1 3) + 1))) 4 ((ms_gr ((((tm_sf (tm_sf u39 12 (0)) 3 (((((tm_sf u39 12 (0))).1 3) + 1)))).1 4)) ((((tm_sf (tm_sf u39 12 (0)) 3 (((((tm_sf u39 12 (0))).1 3) + 1)))).1 5)))))) X h (rfl) (Or.inr (Or.inl ⟨h27f, h35f, u39, hp39, Or.inr ⟨Int32.not_lt.mpr h51t, rfl, rfl⟩⟩)) d_MD_step_117
      · refine lv_iconst (v := 4) hx hb d_MD_step_54 (by decide) ?_
        refine lv_goto hx hb d_MD_step_55 (tgt := 59) rfl ?_
        refine tm_put X h uw_MD t_MD t_MD_ok n_MD 0 rfl rfl 29 (by decide) kw_601 rfl rfl (rfl) (rfl) (Nat.le_of_ble_eq_true rfl) (ws' := tm_wM ad cI cZ (tm_sf u39 12 (4))) rfl d_MD_step_59 (fun H locs h => ?_)
        refine lv_aload_n hx hb d_MD_step_62 rfl (lv_at hl 0 rfl) ?_
        refine tm_get X h uw_MD 0 rfl rfl 29 (by decide) kw_601 rfl rfl d_MD_step_63 ?_
        refine lv_if_eq hx hb d_MD_step_66 (tgt := 76) rfl (fun q => absurd q ((fun z => absurd (show (4 : Int32) = 0 from z) (by decide)))) (fun _ => ?_)
        refine lv_aload_n hx hb d_MD_step_69 rfl (lv_at hl 0 rfl) ?_
        refine lv_iconst (v := 3) hx hb d_MD_step_70 (by decide) ?_
        refine tm_put X h uw_MD t_MD t_MD_ok n_MD 0 rfl rfl 13 (by decide) kw_585 rfl rfl (rfl) (rfl) (Nat.le_of_ble_eq_true rfl) (ws' := tm_wM ad cI cZ (tm_sf (tm_sf u39 12 (4)) 1 (3))) rfl d_MD_step_71 (fun H locs h => ?_)
        refine lv_iconst (v := 0) hx hb d_MD_step_74 (by decide) ?_
        exact tm_zret (w := tm_wM ad cI cZ) (u := (tm_sf (tm_sf u39 12 (4)) 1 (3))) X h (rfl) (Or.inr (Or.inl ⟨h27f, h35f, u39, hp39, Or.inl ⟨Int32.not_le.mp h51f, rfl, rfl⟩⟩)) d_MD_step_75

set_option maxHeartbeats 4000000 in
set_option maxRecDepth 100000 in
theorem c_MD_step_0 (l : Launch) (D : va_G) (cI cZ : ClassId) (ad : Nat → Nat) (F2 : Nat) (L : Nat → Prop) (u : tm_SC) (h7 : ¬ u.1 7 = 0) (h0 : u.1 11 = 0) (hM : (tm_sf (tm_sf u 12 0) 1 2).1 12 = 0 → (tm_sf (tm_sf u 12 0) 1 2).1 1 = 1 → ms_MI (tm_sf (tm_sf u 12 0) 1 2) F2 L) : tm_I l y_MD_step b_MD_step 1 .boolean ({ frames := 5, cells := 0, slots := 0, locals := 170 } : Room) D (tm_yM cI cZ) (tm_wM ad cI cZ) [.ref (ad 0)] u (fun r u' => ms_fin (tm_sf (tm_sf u 12 0) 1 2) F2 L r u') := by
  intro sz
  refine tm_of (Qc := fun A => va_Qi (fun r u' => ms_fin (tm_sf (tm_sf u 12 0) 1 2) F2 L r u') (fun u' t => tm_B D (tm_yM cI cZ) A (tm_wM ad cI cZ u') t) A) (by decide) (Nat.le_of_ble_eq_true rfl) ?_ sz
  intro pg eg sg mg bel met cg A ls X h hl hnm
  have hx := X.1.1
  have hb := X.1.2.1
  have hl : lv_has ls 1 [(0, .ref (ad 0))] := hl
  refine lv_aload_n hx hb d_MD_step_0 rfl (lv_at hl 0 rfl) ?_
  refine lv_iconst (v := 0) hx hb d_MD_step_1 (by decide) ?_
  refine tm_put X h uw_MD t_MD t_MD_ok n_MD 0 rfl rfl 29 (by decide) kw_601 rfl rfl (rfl) (rfl) (Nat.le_of_ble_eq_true rfl) (ws' := tm_wM ad cI cZ (tm_sf u 12 (0))) rfl d_MD_step_2 (fun H locs h => ?_)
  refine lv_aload_n hx hb d_MD_step_5 rfl (lv_at hl 0 rfl) ?_
  refine tm_get X h uw_MD 0 rfl rfl 19 (by decide) kw_591 rfl rfl d_MD_step_6 ?_
  refine tm_top (y := u.1 7) (rfl) ?_
  refine lv_if_eq hx hb d_MD_step_9 (tgt := 19) rfl (fun q => absurd q (h7)) (fun _ => ?_)
  refine lv_aload_n hx hb d_MD_step_12 rfl (lv_at hl 0 rfl) ?_
  refine tm_cVf X h (tm_rV (q0 := 0) X h (c_MD_goBack_0 l D cI cZ ad  (tm_sf u 12 (0)) (h0) _) ki_MD_goBack kw_750 rfl rfl rfl rfl rfl ⟨by decide, by decide⟩ rfl hl.1 rfl (Nat.le_of_ble_eq_true rfl) d_MD_step_13 ⟨by decide, by decide⟩) (fun H locs h => ?_)
  refine lv_goto hx hb d_MD_step_16 (tgt := 23) rfl ?_
  have h : tm_H D A sg (tm_wM ad cI cZ (tm_sf (tm_sf u 12 0) 1 2)) _ _ := h
  refine lv_aload_n hx hb d_MD_step_23 rfl (lv_at hl 0 rfl) ?_
  refine tm_get X h uw_MD 0 rfl rfl 29 (by decide) kw_601 rfl rfl d_MD_step_24 ?_
  refine lv_if_ne hx hb d_MD_step_27 (tgt := 62) rfl (fun h27t => ?_) (fun h27f => ?_)
  · refine lv_aload_n hx hb d_MD_step_62 rfl (lv_at hl 0 rfl) ?_
    refine tm_get X h uw_MD 0 rfl rfl 29 (by decide) kw_601 rfl rfl d_MD_step_63 ?_
    refine lv_if_eq hx hb d_MD_step_66 (tgt := 76) rfl (fun q => absurd q (h27t)) (fun _ => ?_)
    refine lv_aload_n hx hb d_MD_step_69 rfl (lv_at hl 0 rfl) ?_
    refine lv_iconst (v := 3) hx hb d_MD_step_70 (by decide) ?_
    refine tm_put X h uw_MD t_MD t_MD_ok n_MD 0 rfl rfl 13 (by decide) kw_585 rfl rfl (rfl) (rfl) (Nat.le_of_ble_eq_true rfl) (ws' := tm_wM ad cI cZ (tm_sf (tm_sf (tm_sf u 12 0) 1 2) 1 (3))) rfl d_MD_step_71 (fun H locs h => ?_)
    refine lv_iconst (v := 0) hx hb d_MD_step_74 (by decide) ?_
    exact tm_zret (w := tm_wM ad cI cZ) (u := (tm_sf (tm_sf (tm_sf u 12 0) 1 2) 1 (3))) X h (rfl) (Or.inl ⟨h27t, rfl, rfl⟩) d_MD_step_75
  · refine lv_aload_n hx hb d_MD_step_30 rfl (lv_at hl 0 rfl) ?_
    refine tm_get X h uw_MD 0 rfl rfl 13 (by decide) kw_585 rfl rfl d_MD_step_31 ?_
    refine lv_iconst (v := 1) hx hb d_MD_step_34 (by decide) ?_
    refine lv_icmp_ne hx hb d_MD_step_35 (tgt := 62) rfl (fun h35t => ?_) (fun h35f => ?_)
    · refine lv_aload_n hx hb d_MD_step_62 rfl (lv_at hl 0 rfl) ?_
      refine tm_get X h uw_MD 0 rfl rfl 29 (by decide) kw_601 rfl rfl d_MD_step_63 ?_
      refine lv_if_eq hx hb d_MD_step_66 (tgt := 76) rfl (fun _ => ?_) (fun q => absurd (h27f) q)
      refine lv_aload_n hx hb d_MD_step_76 rfl (lv_at hl 0 rfl) ?_
      refine lv_dup hx hb d_MD_step_77 rfl ?_
      refine tm_get X h uw_MD 0 rfl rfl 15 (by decide) kw_587 rfl rfl d_MD_step_78 ?_
      refine lv_iconst (v := 1) hx hb d_MD_step_81 (by decide) ?_
      refine lv_iadd hx hb d_MD_step_82 ?_
      refine tm_put X h uw_MD t_MD t_MD_ok n_MD 0 rfl rfl 15 (by decide) kw_587 rfl rfl (rfl) (rfl) (Nat.le_of_ble_eq_true rfl) (ws' := tm_wM ad cI cZ (tm_sf (tm_sf (tm_sf u 12 0) 1 2) 3 (((((tm_sf (tm_sf u 12 0) 1 2)).1 3) + 1)))) rfl d_MD_step_83 (fun H locs h => ?_)
      refine lv_aload_n hx hb d_MD_step_86 rfl (lv_at hl 0 rfl) ?_
      refine lv_aload_n hx hb d_MD_step_87 rfl (lv_at hl 0 rfl) ?_
      refine tm_get X h uw_MD 0 rfl rfl 13 (by decide) kw_585 rfl rfl d_MD_step_88 ?_
      refine lv_iconst (v := 1) hx hb d_MD_step_91 (by decide) ?_
      refine lv_icmp_ne hx hb d_MD_step_92 (tgt := 109) rfl (fun _ => ?_) (fun q => absurd q (h35t))
      refine lv_aload_n hx hb d_MD_step_109 rfl (lv_at hl 0 rfl) ?_
      refine tm_get X h uw_MD 0 rfl rfl 16 (by decide) kw_588 rfl rfl d_MD_step_110 ?_
      refine tm_put X h uw_MD t_MD t_MD_ok n_MD 0 rfl rfl 16 (by decide) kw_588 rfl rfl (rfl) (rfl) (Nat.le_of_ble_eq_true rfl) (ws' := tm_wM ad cI cZ (tm_sf (tm_sf (tm_sf (tm_sf u 12 0) 1 2) 3 (((((tm_sf (tm_sf u 12 0) 1 2)).1 3) + 1))) 4 ((((tm_sf (tm_sf (tm_sf u 12 0) 1 2) 3 (((((tm_sf (tm_sf u 12 0) 1 2)).1 3) + 1)))).1 4)))) rfl d_MD_step_113 (fun H locs h => ?_)
      refine lv_iconst (v := 1) hx hb d_MD_step_116 (by decide) ?_
      exact tm_zret (w := tm_wM ad cI cZ) (u := (tm_sf (tm_sf (tm_sf (tm_sf u 12 0) 1 2) 3 (((((tm_sf (tm_sf u 12 0) 1 2)).1 3) + 1))) 4 ((((tm_sf (tm_sf (tm_sf u 12 0) 1 2) 3 (((((tm_sf (tm_sf u 12 0) 1 2)).1 3) + 1)))).1 4)))) X h (rfl) (Or.inr (Or.inr ⟨h27f, h35t, rfl, rfl⟩)) d_MD_step_117
    · refine lv_aload_n hx hb d_MD_step_38 rfl (lv_at hl 0 rfl) ?_
      refine tm_cV X h (tm_rV (q0 := 0) X h (c_MD_measure l D cI cZ ad (F2) (L) (tm_sf (tm_sf u 12 0) 1 2) (hM h27f h35f) _) ki_MD_measure kw_724 rfl rfl rfl rfl rfl ⟨by decide, by decide⟩ rfl hl.1 rfl (Nat.le_of_ble_eq_true rfl) d_MD_step_39 ⟨by decide, by decide⟩) (fun u39 H locs hp39 h => ?_)
      have he39 : ms_eq (tm_sf (tm_sf u 12 0) 1 2) u39 := by obtain ⟨_, _, _, _, q⟩ := hp39; exact q
      refine lv_aload_n hx hb d_MD_step_42 rfl (lv_at hl 0 rfl) ?_
      refine lv_aload_n hx hb d_MD_step_43 rfl (lv_at hl 0 rfl) ?_
      refine tm_get X h uw_MD 0 rfl rfl 17 (by decide) kw_589 rfl rfl d_MD_step_44 ?_
      refine lv_aload_n hx hb d_MD_step_47 rfl (lv_at hl 0 rfl) ?_
      refine tm_get X h uw_MD 0 rfl rfl 14 (by decide) kw_586 rfl rfl d_MD_step_48 ?_
      refine lv_icmp_le hx hb d_MD_step_51 (tgt := 58) rfl (fun h51t => ?_) (fun h51f => ?_)
      · refine lv_iconst (v := 0) hx hb d_MD_step_58 (by decide) ?_
        refine tm_put X h uw_MD t_MD t_MD_ok n_MD 0 rfl rfl 29 (by decide) kw_601 rfl rfl (rfl) (rfl) (Nat.le_of_ble_eq_true rfl) (ws' := tm_wM ad cI cZ (tm_sf u39 12 (0))) rfl d_MD_step_59 (fun H locs h => ?_)
        refine lv_aload_n hx hb d_MD_step_62 rfl (lv_at hl 0 rfl) ?_
        refine tm_get X h uw_MD 0 rfl rfl 29 (by decide) kw_601 rfl rfl d_MD_step_63 ?_
        refine lv_if_eq hx hb d_MD_step_66 (tgt := 76) rfl (fun _ => ?_) (fun q => absurd (rfl) q)
        refine lv_aload_n hx hb d_MD_step_76 rfl (lv_at hl 0 rfl) ?_
        refine lv_dup hx hb d_MD_step_77 rfl ?_
        refine tm_get X h uw_MD 0 rfl rfl 15 (by decide) kw_587 rfl rfl d_MD_step_78 ?_
        refine lv_iconst (v := 1) hx hb d_MD_step_81 (by decide) ?_
        refine lv_iadd hx hb d_MD_step_82 ?_
        refine tm_put X h uw_MD t_MD t_MD_ok n_MD 0 rfl rfl 15 (by decide) kw_587 rfl rfl (rfl) (rfl) (Nat.le_of_ble_eq_true rfl) (ws' := tm_wM ad cI cZ (tm_sf (tm_sf u39 12 (0)) 3 (((((tm_sf u39 12 (0))).1 3) + 1)))) rfl d_MD_step_83 (fun H locs h => ?_)
        refine lv_aload_n hx hb d_MD_step_86 rfl (lv_at hl 0 rfl) ?_
        refine lv_aload_n hx hb d_MD_step_87 rfl (lv_at hl 0 rfl) ?_
        refine tm_get X h uw_MD 0 rfl rfl 13 (by decide) kw_585 rfl rfl d_MD_step_88 ?_
        refine lv_iconst (v := 1) hx hb d_MD_step_91 (by decide) ?_
        refine lv_icmp_ne hx hb d_MD_step_92 (tgt := 109) rfl (fun q => absurd ((he39.2 1 (by decide) (by decide)).trans h35f) q) (fun _ => ?_)
        refine lv_aload_n hx hb d_MD_step_95 rfl (lv_at hl 0 rfl) ?_
        refine tm_get X h uw_MD 0 rfl rfl 16 (by decide) kw_588 rfl rfl d_MD_step_96 ?_
        refine lv_aload_n hx hb d_MD_step_99 rfl (lv_at hl 0 rfl) ?_
        refine tm_get X h uw_MD 0 rfl rfl 17 (by decide) kw_589 rfl rfl d_MD_step_100 ?_
        refine tm_cIf X h (tm_rS X h (c_MD_greatest l D cI cZ ad ((((tm_sf (tm_sf u39 12 (0)) 3 (((((tm_sf u39 12 (0))).1 3) + 1)))).1 4)) ((((tm_sf (tm_sf u39 12 (0)) 3 (((((tm_sf u39 12 (0))).1 3) + 1)))).1 5)) (tm_sf (tm_sf u39 12 (0)) 3 (((((tm_sf u39 12 (0))).1 3) + 1)))  _) ks_MD_greatest kw_705 rfl rfl ⟨by decide, by decide⟩ rfl hl.1 rfl (Nat.le_of_ble_eq_true rfl) d_MD_step_103 ⟨by decide, by decide⟩) (fun H locs h => ?_)
        refine lv_goto hx hb d_MD_step_106 (tgt := 113) rfl ?_
        refine tm_put X h uw_MD t_MD t_MD_ok n_MD 0 rfl rfl 16 (by decide) kw_588 rfl rfl (rfl) (rfl) (Nat.le_of_ble_eq_true rfl) (ws' := tm_wM ad cI cZ (tm_sf (tm_sf (tm_sf u39 12 (0)) 3 (((((tm_sf u39 12 (0))).1 3) + 1))) 4 ((ms_gr ((((tm_sf (tm_sf u39 12 (0)) 3 (((((tm_sf u39 12 (0))).1 3) + 1)))).1 4)) ((((tm_sf (tm_sf u39 12 (0)) 3 (((((tm_sf u39 12 (0))).1 3) + 1)))).1 5)))))) rfl d_MD_step_113 (fun H locs h => ?_)
        refine lv_iconst (v := 1) hx hb d_MD_step_116 (by decide) ?_
        exact tm_zret (w := tm_wM ad cI cZ) (u := (tm_sf (tm_sf (tm_sf u39 12 (0)) 3 (((((tm_sf u39 12 (0))).1 3) + 1))) 4 ((ms_gr ((((tm_sf (tm_sf u39 12 (0)) 3 (((((tm_sf u39 12 (0))).1 3) + 1)))).1 4)) ((((tm_sf (tm_sf u39 12 (0)) 3 (((((tm_sf u39 12 (0))).1 3) + 1)))).1 5)))))) X h (rfl) (Or.inr (Or.inl ⟨h27f, h35f, u39, hp39, Or.inr ⟨Int32.not_lt.mpr h51t, rfl, rfl⟩⟩)) d_MD_step_117
      · refine lv_iconst (v := 4) hx hb d_MD_step_54 (by decide) ?_
        refine lv_goto hx hb d_MD_step_55 (tgt := 59) rfl ?_
        refine tm_put X h uw_MD t_MD t_MD_ok n_MD 0 rfl rfl 29 (by decide) kw_601 rfl rfl (rfl) (rfl) (Nat.le_of_ble_eq_true rfl) (ws' := tm_wM ad cI cZ (tm_sf u39 12 (4))) rfl d_MD_step_59 (fun H locs h => ?_)
        refine lv_aload_n hx hb d_MD_step_62 rfl (lv_at hl 0 rfl) ?_
        refine tm_get X h uw_MD 0 rfl rfl 29 (by decide) kw_601 rfl rfl d_MD_step_63 ?_
        refine lv_if_eq hx hb d_MD_step_66 (tgt := 76) rfl (fun q => absurd q ((fun z => absurd (show (4 : Int32) = 0 from z) (by decide)))) (fun _ => ?_)
        refine lv_aload_n hx hb d_MD_step_69 rfl (lv_at hl 0 rfl) ?_
        refine lv_iconst (v := 3) hx hb d_MD_step_70 (by decide) ?_
        refine tm_put X h uw_MD t_MD t_MD_ok n_MD 0 rfl rfl 13 (by decide) kw_585 rfl rfl (rfl) (rfl) (Nat.le_of_ble_eq_true rfl) (ws' := tm_wM ad cI cZ (tm_sf (tm_sf u39 12 (4)) 1 (3))) rfl d_MD_step_71 (fun H locs h => ?_)
        refine lv_iconst (v := 0) hx hb d_MD_step_74 (by decide) ?_
        exact tm_zret (w := tm_wM ad cI cZ) (u := (tm_sf (tm_sf u39 12 (4)) 1 (3))) X h (rfl) (Or.inr (Or.inl ⟨h27f, h35f, u39, hp39, Or.inl ⟨Int32.not_le.mp h51f, rfl, rfl⟩⟩)) d_MD_step_75
theorem d_MD_about_0 : decode b_MD_about 0 = .ok (.aload_n 0, 1) := by decide +kernel
theorem d_MD_about_1 : decode b_MD_about 1 = .ok (.iconst 0, 1) := by decide +kernel
theorem d_MD_about_2 : decode b_MD_about 2 = .ok (.putfield 62, 3) := by decide +kernel
theorem d_MD_about_5 : decode b_MD_about 5 = .ok (.aload_n 0, 1) := by decide +kernel
theorem d_MD_about_6 : decode b_MD_about 6 = .ok (.getfield 122, 3) := by decide +kernel
theorem d_MD_about_9 : decode b_MD_about 9 = .ok (.iconst 1, 1) := by decide +kernel
theorem d_MD_about_10 : decode b_MD_about 10 = .ok (.if_icmp .ne 7, 3) := by decide +kernel
theorem d_MD_about_13 : decode b_MD_about 13 = .ok (.iconst 1, 1) := by decide +kernel
theorem d_MD_about_14 : decode b_MD_about 14 = .ok (.goto 4, 3) := by decide +kernel
theorem d_MD_about_17 : decode b_MD_about 17 = .ok (.iconst 0, 1) := by decide +kernel
theorem d_MD_about_18 : decode b_MD_about 18 = .ok (.istore_n 2, 1) := by decide +kernel
theorem d_MD_about_19 : decode b_MD_about 19 = .ok (.iload_n 1, 1) := by decide +kernel
theorem d_MD_about_20 : decode b_MD_about 20 = .ok (.tableswitch 94 0 5 #[40, 45, 50, 63, 68, 81], 40) := by decide +kernel
theorem d_MD_about_60 : decode b_MD_about 60 = .ok (.aload_n 0, 1) := by decide +kernel
theorem d_MD_about_61 : decode b_MD_about 61 = .ok (.getfield 122, 3) := by decide +kernel
theorem d_MD_about_64 : decode b_MD_about 64 = .ok (.ireturn, 1) := by decide +kernel
theorem d_MD_about_65 : decode b_MD_about 65 = .ok (.aload_n 0, 1) := by decide +kernel
theorem d_MD_about_66 : decode b_MD_about 66 = .ok (.getfield 128, 3) := by decide +kernel
theorem d_MD_about_69 : decode b_MD_about 69 = .ok (.ireturn, 1) := by decide +kernel
theorem d_MD_about_70 : decode b_MD_about 70 = .ok (.iload_n 2, 1) := by decide +kernel
theorem d_MD_about_71 : decode b_MD_about 71 = .ok (.ifCond .eq 10, 3) := by decide +kernel
theorem d_MD_about_74 : decode b_MD_about 74 = .ok (.aload_n 0, 1) := by decide +kernel
theorem d_MD_about_75 : decode b_MD_about 75 = .ok (.getfield 104, 3) := by decide +kernel
theorem d_MD_about_78 : decode b_MD_about 78 = .ok (.goto 4, 3) := by decide +kernel
theorem d_MD_about_81 : decode b_MD_about 81 = .ok (.iconst 0, 1) := by decide +kernel
theorem d_MD_about_82 : decode b_MD_about 82 = .ok (.ireturn, 1) := by decide +kernel
theorem d_MD_about_83 : decode b_MD_about 83 = .ok (.aload_n 0, 1) := by decide +kernel
theorem d_MD_about_84 : decode b_MD_about 84 = .ok (.getfield 137, 3) := by decide +kernel
theorem d_MD_about_87 : decode b_MD_about 87 = .ok (.ireturn, 1) := by decide +kernel
theorem d_MD_about_88 : decode b_MD_about 88 = .ok (.iload_n 2, 1) := by decide +kernel
theorem d_MD_about_89 : decode b_MD_about 89 = .ok (.ifCond .eq 10, 3) := by decide +kernel
theorem d_MD_about_92 : decode b_MD_about 92 = .ok (.aload_n 0, 1) := by decide +kernel
theorem d_MD_about_93 : decode b_MD_about 93 = .ok (.getfield 116, 3) := by decide +kernel
theorem d_MD_about_96 : decode b_MD_about 96 = .ok (.goto 4, 3) := by decide +kernel
theorem d_MD_about_99 : decode b_MD_about 99 = .ok (.iconst 0, 1) := by decide +kernel
theorem d_MD_about_100 : decode b_MD_about 100 = .ok (.ireturn, 1) := by decide +kernel
theorem d_MD_about_101 : decode b_MD_about 101 = .ok (.iload_n 2, 1) := by decide +kernel
theorem d_MD_about_102 : decode b_MD_about 102 = .ok (.ifCond .eq 10, 3) := by decide +kernel
theorem d_MD_about_105 : decode b_MD_about 105 = .ok (.aload_n 0, 1) := by decide +kernel
theorem d_MD_about_106 : decode b_MD_about 106 = .ok (.getfield 91, 3) := by decide +kernel
theorem d_MD_about_109 : decode b_MD_about 109 = .ok (.goto 4, 3) := by decide +kernel
theorem d_MD_about_112 : decode b_MD_about 112 = .ok (.iconst 0, 1) := by decide +kernel
theorem d_MD_about_113 : decode b_MD_about 113 = .ok (.ireturn, 1) := by decide +kernel
theorem d_MD_about_114 : decode b_MD_about 114 = .ok (.iconst (-1), 1) := by decide +kernel
theorem d_MD_about_115 : decode b_MD_about 115 = .ok (.ireturn, 1) := by decide +kernel
set_option maxHeartbeats 4000000 in
set_option maxRecDepth 100000 in
theorem c_MD_about (l : Launch) (D : va_G) (cI cZ : ClassId) (ad : Nat → Nat) (x : Int32) (u : tm_SC)  : tm_I l y_MD_about b_MD_about 3 .int ({ frames := 0, cells := 0, slots := 0, locals := 0 } : Room) D (tm_yM cI cZ) (tm_wM ad cI cZ) [.ref (ad 0), .int (x)] u (fun r u' => r = (ms_abt u x) ∧ u' = (tm_sf u 13 0)) := by
  intro sz
  refine tm_of (Qc := fun A => va_Qi (fun r u' => r = (ms_abt u x) ∧ u' = (tm_sf u 13 0)) (fun u' t => tm_B D (tm_yM cI cZ) A (tm_wM ad cI cZ u') t) A) (by decide) (Nat.le_of_ble_eq_true rfl) ?_ sz
  intro pg eg sg mg bel met cg A ls X h hl hnm
  have hx := X.1.1
  have hb := X.1.2.1
  have hl : lv_has ls 3 [(0, .ref (ad 0)), (1, .int (x))] := hl
  refine lv_aload_n hx hb d_MD_about_0 rfl (lv_at hl 0 rfl) ?_
  refine lv_iconst (v := 0) hx hb d_MD_about_1 (by decide) ?_
  refine tm_put X h uw_MD t_MD t_MD_ok n_MD 0 rfl rfl 30 (by decide) kw_602 rfl rfl (rfl) (rfl) (Nat.le_of_ble_eq_true rfl) (ws' := tm_wM ad cI cZ (tm_sf u 13 (0))) rfl d_MD_about_2 (fun H locs h => ?_)
  refine lv_aload_n hx hb d_MD_about_5 rfl (lv_at hl 0 rfl) ?_
  refine tm_get X h uw_MD 0 rfl rfl 13 (by decide) kw_585 rfl rfl d_MD_about_6 ?_
  refine tm_top (y := u.1 1) (rfl) ?_
  refine lv_iconst (v := 1) hx hb d_MD_about_9 (by decide) ?_
  refine lv_icmp_ne hx hb d_MD_about_10 (tgt := 17) rfl (fun h10t => ?_) (fun h10f => ?_)
  · refine lv_iconst (v := 0) hx hb d_MD_about_17 (by decide) ?_
    refine lv_istore_n hx hb d_MD_about_18 rfl hl (by decide) rfl (fun ls (hl : lv_has ls 3 [(2, .int (0)), (0, .ref (ad 0)), (1, .int (x))]) => ?_)
    refine lv_iload_n hx hb d_MD_about_19 rfl (lv_at hl 2 rfl) ?_
    by_cases q20_0 : x = 0
    · refine tm_sw 0 q20_0 hx hb d_MD_about_20 (tgt := 60) (by decide) (by decide) rfl rfl ?_
      refine lv_aload_n hx hb d_MD_about_60 rfl (lv_at hl 1 rfl) ?_
      refine tm_get X h uw_MD 0 rfl rfl 13 (by decide) kw_585 rfl rfl d_MD_about_61 ?_
      exact tm_iret (w := tm_wM ad cI cZ) (u := (tm_sf u 13 (0))) X h (⟨by unfold ms_abt; rw [if_pos q20_0]; rfl, rfl⟩) d_MD_about_64
    by_cases q20_1 : x = 1
    · refine tm_sw 1 q20_1 hx hb d_MD_about_20 (tgt := 65) (by decide) (by decide) rfl rfl ?_
      refine lv_aload_n hx hb d_MD_about_65 rfl (lv_at hl 1 rfl) ?_
      refine tm_get X h uw_MD 0 rfl rfl 15 (by decide) kw_587 rfl rfl d_MD_about_66 ?_
      exact tm_iret (w := tm_wM ad cI cZ) (u := (tm_sf u 13 (0))) X h (⟨by unfold ms_abt; rw [if_neg q20_0, if_pos q20_1]; rfl, rfl⟩) d_MD_about_69
    by_cases q20_2 : x = 2
    · refine tm_sw 2 q20_2 hx hb d_MD_about_20 (tgt := 70) (by decide) (by decide) rfl rfl ?_
      refine lv_iload_n hx hb d_MD_about_70 rfl (lv_at hl 0 rfl) ?_
      refine lv_if_eq hx hb d_MD_about_71 (tgt := 81) rfl (fun _ => ?_) (fun q => absurd (rfl) q)
      refine lv_iconst (v := 0) hx hb d_MD_about_81 (by decide) ?_
      exact tm_iret (w := tm_wM ad cI cZ) (u := (tm_sf u 13 (0))) X h (⟨by unfold ms_abt; rw [if_neg q20_0, if_neg q20_1, if_pos q20_2, if_neg h10t], rfl⟩) d_MD_about_82
    by_cases q20_3 : x = 3
    · refine tm_sw 3 q20_3 hx hb d_MD_about_20 (tgt := 83) (by decide) (by decide) rfl rfl ?_
      refine lv_aload_n hx hb d_MD_about_83 rfl (lv_at hl 1 rfl) ?_
      refine tm_get X h uw_MD 0 rfl rfl 16 (by decide) kw_588 rfl rfl d_MD_about_84 ?_
      exact tm_iret (w := tm_wM ad cI cZ) (u := (tm_sf u 13 (0))) X h (⟨by unfold ms_abt; rw [if_neg q20_0, if_neg q20_1, if_neg q20_2, if_pos q20_3]; rfl, rfl⟩) d_MD_about_87
    by_cases q20_4 : x = 4
    · refine tm_sw 4 q20_4 hx hb d_MD_about_20 (tgt := 88) (by decide) (by decide) rfl rfl ?_
      refine lv_iload_n hx hb d_MD_about_88 rfl (lv_at hl 0 rfl) ?_
      refine lv_if_eq hx hb d_MD_about_89 (tgt := 99) rfl (fun _ => ?_) (fun q => absurd (rfl) q)
      refine lv_iconst (v := 0) hx hb d_MD_about_99 (by decide) ?_
      exact tm_iret (w := tm_wM ad cI cZ) (u := (tm_sf u 13 (0))) X h (⟨by unfold ms_abt; rw [if_neg q20_0, if_neg q20_1, if_neg q20_2, if_neg q20_3, if_pos q20_4, if_neg h10t], rfl⟩) d_MD_about_100
    by_cases q20_5 : x = 5
    · refine tm_sw 5 q20_5 hx hb d_MD_about_20 (tgt := 101) (by decide) (by decide) rfl rfl ?_
      refine lv_iload_n hx hb d_MD_about_101 rfl (lv_at hl 0 rfl) ?_
      refine lv_if_eq hx hb d_MD_about_102 (tgt := 112) rfl (fun _ => ?_) (fun q => absurd (rfl) q)
      refine lv_iconst (v := 0) hx hb d_MD_about_112 (by decide) ?_
      exact tm_iret (w := tm_wM ad cI cZ) (u := (tm_sf u 13 (0))) X h (⟨by unfold ms_abt; rw [if_neg q20_0, if_neg q20_1, if_neg q20_2, if_neg q20_3, if_neg q20_4, if_pos q20_5, if_neg h10t], rfl⟩) d_MD_about_113
    refine lv_tableOut hx hb d_MD_about_20 (tm_swo6 q20_0 q20_1 q20_2 q20_3 q20_4 q20_5) (tgt := 114) rfl ?_
    refine lv_iconst (v := -1) hx hb d_MD_about_114 (by decide) ?_
    exact tm_iret (w := tm_wM ad cI cZ) (u := (tm_sf u 13 (0))) X h (⟨by unfold ms_abt; rw [if_neg q20_0, if_neg q20_1, if_neg q20_2, if_neg q20_3, if_neg q20_4, if_neg q20_5], rfl⟩) d_MD_about_115
  · refine lv_iconst (v := 1) hx hb d_MD_about_13 (by decide) ?_
    refine lv_goto hx hb d_MD_about_14 (tgt := 18) rfl ?_
    refine lv_istore_n hx hb d_MD_about_18 rfl hl (by decide) rfl (fun ls (hl : lv_has ls 3 [(2, .int (1)), (0, .ref (ad 0)), (1, .int (x))]) => ?_)
    refine lv_iload_n hx hb d_MD_about_19 rfl (lv_at hl 2 rfl) ?_
    by_cases q20_0 : x = 0
    · refine tm_sw 0 q20_0 hx hb d_MD_about_20 (tgt := 60) (by decide) (by decide) rfl rfl ?_
      refine lv_aload_n hx hb d_MD_about_60 rfl (lv_at hl 1 rfl) ?_
      refine tm_get X h uw_MD 0 rfl rfl 13 (by decide) kw_585 rfl rfl d_MD_about_61 ?_
      exact tm_iret (w := tm_wM ad cI cZ) (u := (tm_sf u 13 (0))) X h (⟨by unfold ms_abt; rw [if_pos q20_0]; rfl, rfl⟩) d_MD_about_64
    by_cases q20_1 : x = 1
    · refine tm_sw 1 q20_1 hx hb d_MD_about_20 (tgt := 65) (by decide) (by decide) rfl rfl ?_
      refine lv_aload_n hx hb d_MD_about_65 rfl (lv_at hl 1 rfl) ?_
      refine tm_get X h uw_MD 0 rfl rfl 15 (by decide) kw_587 rfl rfl d_MD_about_66 ?_
      exact tm_iret (w := tm_wM ad cI cZ) (u := (tm_sf u 13 (0))) X h (⟨by unfold ms_abt; rw [if_neg q20_0, if_pos q20_1]; rfl, rfl⟩) d_MD_about_69
    by_cases q20_2 : x = 2
    · refine tm_sw 2 q20_2 hx hb d_MD_about_20 (tgt := 70) (by decide) (by decide) rfl rfl ?_
      refine lv_iload_n hx hb d_MD_about_70 rfl (lv_at hl 0 rfl) ?_
      refine lv_if_eq hx hb d_MD_about_71 (tgt := 81) rfl (fun q => absurd q ((by decide))) (fun _ => ?_)
      refine lv_aload_n hx hb d_MD_about_74 rfl (lv_at hl 1 rfl) ?_
      refine tm_get X h uw_MD 0 rfl rfl 17 (by decide) kw_589 rfl rfl d_MD_about_75 ?_
      refine lv_goto hx hb d_MD_about_78 (tgt := 82) rfl ?_
      exact tm_iret (w := tm_wM ad cI cZ) (u := (tm_sf u 13 (0))) X h (⟨by unfold ms_abt; rw [if_neg q20_0, if_neg q20_1, if_pos q20_2, if_pos h10f]; rfl, rfl⟩) d_MD_about_82
    by_cases q20_3 : x = 3
    · refine tm_sw 3 q20_3 hx hb d_MD_about_20 (tgt := 83) (by decide) (by decide) rfl rfl ?_
      refine lv_aload_n hx hb d_MD_about_83 rfl (lv_at hl 1 rfl) ?_
      refine tm_get X h uw_MD 0 rfl rfl 16 (by decide) kw_588 rfl rfl d_MD_about_84 ?_
      exact tm_iret (w := tm_wM ad cI cZ) (u := (tm_sf u 13 (0))) X h (⟨by unfold ms_abt; rw [if_neg q20_0, if_neg q20_1, if_neg q20_2, if_pos q20_3]; rfl, rfl⟩) d_MD_about_87
    by_cases q20_4 : x = 4
    · refine tm_sw 4 q20_4 hx hb d_MD_about_20 (tgt := 88) (by decide) (by decide) rfl rfl ?_
      refine lv_iload_n hx hb d_MD_about_88 rfl (lv_at hl 0 rfl) ?_
      refine lv_if_eq hx hb d_MD_about_89 (tgt := 99) rfl (fun q => absurd q ((by decide))) (fun _ => ?_)
      refine lv_aload_n hx hb d_MD_about_92 rfl (lv_at hl 1 rfl) ?_
      refine tm_get X h uw_MD 0 rfl rfl 23 (by decide) kw_595 rfl rfl d_MD_about_93 ?_
      refine lv_goto hx hb d_MD_about_96 (tgt := 100) rfl ?_
      exact tm_iret (w := tm_wM ad cI cZ) (u := (tm_sf u 13 (0))) X h (⟨by unfold ms_abt; rw [if_neg q20_0, if_neg q20_1, if_neg q20_2, if_neg q20_3, if_pos q20_4, if_pos h10f]; rfl, rfl⟩) d_MD_about_100
    by_cases q20_5 : x = 5
    · refine tm_sw 5 q20_5 hx hb d_MD_about_20 (tgt := 101) (by decide) (by decide) rfl rfl ?_
      refine lv_iload_n hx hb d_MD_about_101 rfl (lv_at hl 0 rfl) ?_
      refine lv_if_eq hx hb d_MD_about_102 (tgt := 112) rfl (fun q => absurd q ((by decide))) (fun _ => ?_)
      refine lv_aload_n hx hb d_MD_about_105 rfl (lv_at hl 1 rfl) ?_
      refine tm_get X h uw_MD 0 rfl rfl 18 (by decide) kw_590 rfl rfl d_MD_about_106 ?_
      refine lv_goto hx hb d_MD_about_109 (tgt := 113) rfl ?_
      exact tm_iret (w := tm_wM ad cI cZ) (u := (tm_sf u 13 (0))) X h (⟨by unfold ms_abt; rw [if_neg q20_0, if_neg q20_1, if_neg q20_2, if_neg q20_3, if_neg q20_4, if_pos q20_5, if_pos h10f]; rfl, rfl⟩) d_MD_about_113
    refine lv_tableOut hx hb d_MD_about_20 (tm_swo6 q20_0 q20_1 q20_2 q20_3 q20_4 q20_5) (tgt := 114) rfl ?_
    refine lv_iconst (v := -1) hx hb d_MD_about_114 (by decide) ?_
    exact tm_iret (w := tm_wM ad cI cZ) (u := (tm_sf u 13 (0))) X h (⟨by unfold ms_abt; rw [if_neg q20_0, if_neg q20_1, if_neg q20_2, if_neg q20_3, if_neg q20_4, if_neg q20_5], rfl⟩) d_MD_about_115
theorem d_MD_result_0 : decode b_MD_result 0 = .ok (.aload_n 0, 1) := by decide +kernel
theorem d_MD_result_1 : decode b_MD_result 1 = .ok (.aload_n 0, 1) := by decide +kernel
theorem d_MD_result_2 : decode b_MD_result 2 = .ok (.getfield 122, 3) := by decide +kernel
theorem d_MD_result_5 : decode b_MD_result 5 = .ok (.iconst 2, 1) := by decide +kernel
theorem d_MD_result_6 : decode b_MD_result 6 = .ok (.if_icmp .ne 7, 3) := by decide +kernel
theorem d_MD_result_9 : decode b_MD_result 9 = .ok (.iconst 0, 1) := by decide +kernel
theorem d_MD_result_10 : decode b_MD_result 10 = .ok (.goto 4, 3) := by decide +kernel
theorem d_MD_result_13 : decode b_MD_result 13 = .ok (.iconst 1, 1) := by decide +kernel
theorem d_MD_result_14 : decode b_MD_result 14 = .ok (.putfield 62, 3) := by decide +kernel
theorem d_MD_result_17 : decode b_MD_result 17 = .ok (.aload_n 0, 1) := by decide +kernel
theorem d_MD_result_18 : decode b_MD_result 18 = .ok (.getfield 62, 3) := by decide +kernel
theorem d_MD_result_21 : decode b_MD_result 21 = .ok (.ifCond .eq 7, 3) := by decide +kernel
theorem d_MD_result_24 : decode b_MD_result 24 = .ok (.iconst 0, 1) := by decide +kernel
theorem d_MD_result_25 : decode b_MD_result 25 = .ok (.goto 26, 3) := by decide +kernel
theorem d_MD_result_28 : decode b_MD_result 28 = .ok (.aload_n 0, 1) := by decide +kernel
theorem d_MD_result_29 : decode b_MD_result 29 = .ok (.getfield 107, 3) := by decide +kernel
theorem d_MD_result_32 : decode b_MD_result 32 = .ok (.ifCond .eq 15, 3) := by decide +kernel
theorem d_MD_result_35 : decode b_MD_result 35 = .ok (.aload_n 0, 1) := by decide +kernel
theorem d_MD_result_36 : decode b_MD_result 36 = .ok (.getfield 38, 3) := by decide +kernel
theorem d_MD_result_39 : decode b_MD_result 39 = .ok (.aload_n 0, 1) := by decide +kernel
theorem d_MD_result_40 : decode b_MD_result 40 = .ok (.getfield 110, 3) := by decide +kernel
theorem d_MD_result_43 : decode b_MD_result 43 = .ok (.iaload, 1) := by decide +kernel
theorem d_MD_result_44 : decode b_MD_result 44 = .ok (.goto 7, 3) := by decide +kernel
theorem d_MD_result_47 : decode b_MD_result 47 = .ok (.aload_n 0, 1) := by decide +kernel
theorem d_MD_result_48 : decode b_MD_result 48 = .ok (.getfield 110, 3) := by decide +kernel
theorem d_MD_result_51 : decode b_MD_result 51 = .ok (.ireturn, 1) := by decide +kernel
set_option maxHeartbeats 4000000 in
set_option maxRecDepth 100000 in
theorem c_MD_result (l : Launch) (D : va_G) (cI cZ : ClassId) (ad : Nat → Nat)  (u : tm_SC) (hr : u.1 1 = 2 → ¬ u.1 10 = 0 → vp_in (u.1 9) 130) : tm_I l y_MD_result b_MD_result 1 .int ({ frames := 0, cells := 0, slots := 0, locals := 0 } : Room) D (tm_yM cI cZ) (tm_wM ad cI cZ) [.ref (ad 0)] u (fun r u' => r = (if u.1 1 = 2 then (if u.1 10 = 0 then u.1 9 else u.2.1 9 (u.1 9).toNatClampNeg) else 0) ∧ u' = (tm_sf u 13 (if u.1 1 = 2 then 0 else 1))) := by
  intro sz
  refine tm_of (Qc := fun A => va_Qi (fun r u' => r = (if u.1 1 = 2 then (if u.1 10 = 0 then u.1 9 else u.2.1 9 (u.1 9).toNatClampNeg) else 0) ∧ u' = (tm_sf u 13 (if u.1 1 = 2 then 0 else 1))) (fun u' t => tm_B D (tm_yM cI cZ) A (tm_wM ad cI cZ u') t) A) (by decide) (Nat.le_of_ble_eq_true rfl) ?_ sz
  intro pg eg sg mg bel met cg A ls X h hl hnm
  have hx := X.1.1
  have hb := X.1.2.1
  have hl : lv_has ls 1 [(0, .ref (ad 0))] := hl
  refine lv_aload_n hx hb d_MD_result_0 rfl (lv_at hl 0 rfl) ?_
  refine lv_aload_n hx hb d_MD_result_1 rfl (lv_at hl 0 rfl) ?_
  refine tm_get X h uw_MD 0 rfl rfl 13 (by decide) kw_585 rfl rfl d_MD_result_2 ?_
  refine lv_iconst (v := 2) hx hb d_MD_result_5 (by decide) ?_
  refine lv_icmp_ne hx hb d_MD_result_6 (tgt := 13) rfl (fun h6t => ?_) (fun h6f => ?_)
  · refine lv_iconst (v := 1) hx hb d_MD_result_13 (by decide) ?_
    refine tm_put X h uw_MD t_MD t_MD_ok n_MD 0 rfl rfl 30 (by decide) kw_602 rfl rfl (rfl) (rfl) (Nat.le_of_ble_eq_true rfl) (ws' := tm_wM ad cI cZ (tm_sf u 13 (1))) rfl d_MD_result_14 (fun H locs h => ?_)
    refine lv_aload_n hx hb d_MD_result_17 rfl (lv_at hl 0 rfl) ?_
    refine tm_get X h uw_MD 0 rfl rfl 30 (by decide) kw_602 rfl rfl d_MD_result_18 ?_
    refine lv_if_eq hx hb d_MD_result_21 (tgt := 28) rfl (fun q => absurd q ((fun z => absurd (show (1 : Int32) = 0 from z) (by decide)))) (fun _ => ?_)
    refine lv_iconst (v := 0) hx hb d_MD_result_24 (by decide) ?_
    refine lv_goto hx hb d_MD_result_25 (tgt := 51) rfl ?_
    exact tm_iret (w := tm_wM ad cI cZ) (u := (tm_sf u 13 (1))) X h (⟨(if_neg h6t).symm, congrArg (tm_sf u 13) (if_neg h6t).symm⟩) d_MD_result_51
  · refine lv_iconst (v := 0) hx hb d_MD_result_9 (by decide) ?_
    refine lv_goto hx hb d_MD_result_10 (tgt := 14) rfl ?_
    refine tm_put X h uw_MD t_MD t_MD_ok n_MD 0 rfl rfl 30 (by decide) kw_602 rfl rfl (rfl) (rfl) (Nat.le_of_ble_eq_true rfl) (ws' := tm_wM ad cI cZ (tm_sf u 13 (0))) rfl d_MD_result_14 (fun H locs h => ?_)
    refine lv_aload_n hx hb d_MD_result_17 rfl (lv_at hl 0 rfl) ?_
    refine tm_get X h uw_MD 0 rfl rfl 30 (by decide) kw_602 rfl rfl d_MD_result_18 ?_
    refine lv_if_eq hx hb d_MD_result_21 (tgt := 28) rfl (fun _ => ?_) (fun q => absurd (rfl) q)
    refine lv_aload_n hx hb d_MD_result_28 rfl (lv_at hl 0 rfl) ?_
    refine tm_get X h uw_MD 0 rfl rfl 22 (by decide) kw_594 rfl rfl d_MD_result_29 ?_
    refine tm_top (y := u.1 10) (rfl) ?_
    refine lv_if_eq hx hb d_MD_result_32 (tgt := 47) rfl (fun h32t => ?_) (fun h32f => ?_)
    · refine lv_aload_n hx hb d_MD_result_47 rfl (lv_at hl 0 rfl) ?_
      refine tm_get X h uw_MD 0 rfl rfl 21 (by decide) kw_593 rfl rfl d_MD_result_48 ?_
      exact tm_iret (w := tm_wM ad cI cZ) (u := (tm_sf u 13 (0))) X h (⟨by rw [if_pos h6f, if_pos h32t]; rfl, congrArg (tm_sf u 13) (if_pos h6f).symm⟩) d_MD_result_51
    · refine lv_aload_n hx hb d_MD_result_35 rfl (lv_at hl 0 rfl) ?_
      refine tm_get X h uw_MD 0 rfl rfl 10 (by decide) kw_582 rfl rfl d_MD_result_36 ?_
      refine lv_aload_n hx hb d_MD_result_39 rfl (lv_at hl 0 rfl) ?_
      refine tm_get X h uw_MD 0 rfl rfl 21 (by decide) kw_593 rfl rfl d_MD_result_40 ?_
      refine tm_iald X h 10 0 rfl rfl ((u.1 9).toNatClampNeg) ((tm_vin (hr h6f h32f) (by decide)).1) ((tm_vin (hr h6f h32f) (by decide)).2) (by decide) d_MD_result_43 ?_
      refine lv_goto hx hb d_MD_result_44 (tgt := 51) rfl ?_
      exact tm_iret (w := tm_wM ad cI cZ) (u := (tm_sf u 13 (0))) X h (⟨by rw [if_pos h6f, if_neg h32f]; rfl, congrArg (tm_sf u 13) (if_pos h6f).symm⟩) d_MD_result_51
theorem d_MD_isClosure_0 : decode b_MD_isClosure 0 = .ok (.aload_n 0, 1) := by decide +kernel
theorem d_MD_isClosure_1 : decode b_MD_isClosure 1 = .ok (.aload_n 0, 1) := by decide +kernel
theorem d_MD_isClosure_2 : decode b_MD_isClosure 2 = .ok (.getfield 122, 3) := by decide +kernel
theorem d_MD_isClosure_5 : decode b_MD_isClosure 5 = .ok (.iconst 2, 1) := by decide +kernel
theorem d_MD_isClosure_6 : decode b_MD_isClosure 6 = .ok (.if_icmp .ne 7, 3) := by decide +kernel
theorem d_MD_isClosure_9 : decode b_MD_isClosure 9 = .ok (.iconst 0, 1) := by decide +kernel
theorem d_MD_isClosure_10 : decode b_MD_isClosure 10 = .ok (.goto 4, 3) := by decide +kernel
theorem d_MD_isClosure_13 : decode b_MD_isClosure 13 = .ok (.iconst 1, 1) := by decide +kernel
theorem d_MD_isClosure_14 : decode b_MD_isClosure 14 = .ok (.putfield 62, 3) := by decide +kernel
theorem d_MD_isClosure_17 : decode b_MD_isClosure 17 = .ok (.aload_n 0, 1) := by decide +kernel
theorem d_MD_isClosure_18 : decode b_MD_isClosure 18 = .ok (.getfield 62, 3) := by decide +kernel
theorem d_MD_isClosure_21 : decode b_MD_isClosure 21 = .ok (.ifCond .ne 14, 3) := by decide +kernel
theorem d_MD_isClosure_24 : decode b_MD_isClosure 24 = .ok (.aload_n 0, 1) := by decide +kernel
theorem d_MD_isClosure_25 : decode b_MD_isClosure 25 = .ok (.getfield 107, 3) := by decide +kernel
theorem d_MD_isClosure_28 : decode b_MD_isClosure 28 = .ok (.ifCond .eq 7, 3) := by decide +kernel
theorem d_MD_isClosure_31 : decode b_MD_isClosure 31 = .ok (.iconst 1, 1) := by decide +kernel
theorem d_MD_isClosure_32 : decode b_MD_isClosure 32 = .ok (.goto 4, 3) := by decide +kernel
theorem d_MD_isClosure_35 : decode b_MD_isClosure 35 = .ok (.iconst 0, 1) := by decide +kernel
theorem d_MD_isClosure_36 : decode b_MD_isClosure 36 = .ok (.ireturn, 1) := by decide +kernel
set_option maxHeartbeats 4000000 in
set_option maxRecDepth 100000 in
theorem c_MD_isClosure (l : Launch) (D : va_G) (cI cZ : ClassId) (ad : Nat → Nat)  (u : tm_SC)  : tm_I l y_MD_isClosure b_MD_isClosure 1 .boolean ({ frames := 0, cells := 0, slots := 0, locals := 0 } : Room) D (tm_yM cI cZ) (tm_wM ad cI cZ) [.ref (ad 0)] u (fun r u' => r = (if u.1 1 = 2 then (if u.1 10 = 0 then 0 else 1) else 0) ∧ u' = (tm_sf u 13 (if u.1 1 = 2 then 0 else 1))) := by
  intro sz
  refine tm_of (Qc := fun A => va_Qi (fun r u' => r = (if u.1 1 = 2 then (if u.1 10 = 0 then 0 else 1) else 0) ∧ u' = (tm_sf u 13 (if u.1 1 = 2 then 0 else 1))) (fun u' t => tm_B D (tm_yM cI cZ) A (tm_wM ad cI cZ u') t) A) (by decide) (Nat.le_of_ble_eq_true rfl) ?_ sz
  intro pg eg sg mg bel met cg A ls X h hl hnm
  have hx := X.1.1
  have hb := X.1.2.1
  have hl : lv_has ls 1 [(0, .ref (ad 0))] := hl
  refine lv_aload_n hx hb d_MD_isClosure_0 rfl (lv_at hl 0 rfl) ?_
  refine lv_aload_n hx hb d_MD_isClosure_1 rfl (lv_at hl 0 rfl) ?_
  refine tm_get X h uw_MD 0 rfl rfl 13 (by decide) kw_585 rfl rfl d_MD_isClosure_2 ?_
  refine lv_iconst (v := 2) hx hb d_MD_isClosure_5 (by decide) ?_
  refine lv_icmp_ne hx hb d_MD_isClosure_6 (tgt := 13) rfl (fun h6t => ?_) (fun h6f => ?_)
  · refine lv_iconst (v := 1) hx hb d_MD_isClosure_13 (by decide) ?_
    refine tm_put X h uw_MD t_MD t_MD_ok n_MD 0 rfl rfl 30 (by decide) kw_602 rfl rfl (rfl) (rfl) (Nat.le_of_ble_eq_true rfl) (ws' := tm_wM ad cI cZ (tm_sf u 13 (1))) rfl d_MD_isClosure_14 (fun H locs h => ?_)
    refine lv_aload_n hx hb d_MD_isClosure_17 rfl (lv_at hl 0 rfl) ?_
    refine tm_get X h uw_MD 0 rfl rfl 30 (by decide) kw_602 rfl rfl d_MD_isClosure_18 ?_
    refine lv_if_ne hx hb d_MD_isClosure_21 (tgt := 35) rfl (fun _ => ?_) (fun q => absurd q ((fun z => absurd (show (1 : Int32) = 0 from z) (by decide))))
    refine lv_iconst (v := 0) hx hb d_MD_isClosure_35 (by decide) ?_
    exact tm_zret (w := tm_wM ad cI cZ) (u := (tm_sf u 13 (1))) X h (rfl) (⟨(if_neg h6t).symm, congrArg (tm_sf u 13) (if_neg h6t).symm⟩) d_MD_isClosure_36
  · refine lv_iconst (v := 0) hx hb d_MD_isClosure_9 (by decide) ?_
    refine lv_goto hx hb d_MD_isClosure_10 (tgt := 14) rfl ?_
    refine tm_put X h uw_MD t_MD t_MD_ok n_MD 0 rfl rfl 30 (by decide) kw_602 rfl rfl (rfl) (rfl) (Nat.le_of_ble_eq_true rfl) (ws' := tm_wM ad cI cZ (tm_sf u 13 (0))) rfl d_MD_isClosure_14 (fun H locs h => ?_)
    refine lv_aload_n hx hb d_MD_isClosure_17 rfl (lv_at hl 0 rfl) ?_
    refine tm_get X h uw_MD 0 rfl rfl 30 (by decide) kw_602 rfl rfl d_MD_isClosure_18 ?_
    refine lv_if_ne hx hb d_MD_isClosure_21 (tgt := 35) rfl (fun q => absurd (rfl) q) (fun _ => ?_)
    refine lv_aload_n hx hb d_MD_isClosure_24 rfl (lv_at hl 0 rfl) ?_
    refine tm_get X h uw_MD 0 rfl rfl 22 (by decide) kw_594 rfl rfl d_MD_isClosure_25 ?_
    refine tm_top (y := u.1 10) (rfl) ?_
    refine lv_if_eq hx hb d_MD_isClosure_28 (tgt := 35) rfl (fun h28t => ?_) (fun h28f => ?_)
    · refine lv_iconst (v := 0) hx hb d_MD_isClosure_35 (by decide) ?_
      exact tm_zret (w := tm_wM ad cI cZ) (u := (tm_sf u 13 (0))) X h (rfl) (⟨by rw [if_pos h6f, if_pos h28t], congrArg (tm_sf u 13) (if_pos h6f).symm⟩) d_MD_isClosure_36
    · refine lv_iconst (v := 1) hx hb d_MD_isClosure_31 (by decide) ?_
      refine lv_goto hx hb d_MD_isClosure_32 (tgt := 36) rfl ?_
      exact tm_zret (w := tm_wM ad cI cZ) (u := (tm_sf u 13 (0))) X h (rfl) (⟨by rw [if_pos h6f, if_neg h28f], congrArg (tm_sf u 13) (if_pos h6f).symm⟩) d_MD_isClosure_36
theorem d_MD_begin_0 : decode b_MD_begin 0 = .ok (.aload_n 0, 1) := by decide +kernel
theorem d_MD_begin_1 : decode b_MD_begin 1 = .ok (.aload_n 0, 1) := by decide +kernel
theorem d_MD_begin_2 : decode b_MD_begin 2 = .ok (.iload_n 1, 1) := by decide +kernel
theorem d_MD_begin_3 : decode b_MD_begin 3 = .ok (.invokevirtual 69, 3) := by decide +kernel
theorem d_MD_begin_6 : decode b_MD_begin 6 = .ok (.ifCond .eq 14, 3) := by decide +kernel
theorem d_MD_begin_9 : decode b_MD_begin 9 = .ok (.iload_n 2, 1) := by decide +kernel
theorem d_MD_begin_10 : decode b_MD_begin 10 = .ok (.iconst 1, 1) := by decide +kernel
theorem d_MD_begin_11 : decode b_MD_begin 11 = .ok (.if_icmp .lt 9, 3) := by decide +kernel
theorem d_MD_begin_14 : decode b_MD_begin 14 = .ok (.iload_n 2, 1) := by decide +kernel
theorem d_MD_begin_15 : decode b_MD_begin 15 = .ok (.bipush 120, 2) := by decide +kernel
theorem d_MD_begin_17 : decode b_MD_begin 17 = .ok (.if_icmp .le 7, 3) := by decide +kernel
theorem d_MD_begin_20 : decode b_MD_begin 20 = .ok (.iconst 1, 1) := by decide +kernel
theorem d_MD_begin_21 : decode b_MD_begin 21 = .ok (.goto 4, 3) := by decide +kernel
theorem d_MD_begin_24 : decode b_MD_begin 24 = .ok (.iconst 0, 1) := by decide +kernel
theorem d_MD_begin_25 : decode b_MD_begin 25 = .ok (.putfield 62, 3) := by decide +kernel
theorem d_MD_begin_28 : decode b_MD_begin 28 = .ok (.aload_n 0, 1) := by decide +kernel
theorem d_MD_begin_29 : decode b_MD_begin 29 = .ok (.getfield 62, 3) := by decide +kernel
theorem d_MD_begin_32 : decode b_MD_begin 32 = .ok (.ifCond .eq 4, 3) := by decide +kernel
theorem d_MD_begin_35 : decode b_MD_begin 35 = .ok (.return_, 1) := by decide +kernel
theorem d_MD_begin_36 : decode b_MD_begin 36 = .ok (.aload_n 0, 1) := by decide +kernel
theorem d_MD_begin_37 : decode b_MD_begin 37 = .ok (.iconst 1, 1) := by decide +kernel
theorem d_MD_begin_38 : decode b_MD_begin 38 = .ok (.putfield 122, 3) := by decide +kernel
theorem d_MD_begin_41 : decode b_MD_begin 41 = .ok (.aload_n 0, 1) := by decide +kernel
theorem d_MD_begin_42 : decode b_MD_begin 42 = .ok (.iload_n 2, 1) := by decide +kernel
theorem d_MD_begin_43 : decode b_MD_begin 43 = .ok (.putfield 125, 3) := by decide +kernel
theorem d_MD_begin_46 : decode b_MD_begin 46 = .ok (.aload_n 0, 1) := by decide +kernel
theorem d_MD_begin_47 : decode b_MD_begin 47 = .ok (.iconst 0, 1) := by decide +kernel
theorem d_MD_begin_48 : decode b_MD_begin 48 = .ok (.putfield 128, 3) := by decide +kernel
theorem d_MD_begin_51 : decode b_MD_begin 51 = .ok (.aload_n 0, 1) := by decide +kernel
theorem d_MD_begin_52 : decode b_MD_begin 52 = .ok (.iconst 0, 1) := by decide +kernel
theorem d_MD_begin_53 : decode b_MD_begin 53 = .ok (.putfield 97, 3) := by decide +kernel
theorem d_MD_begin_56 : decode b_MD_begin 56 = .ok (.aload_n 0, 1) := by decide +kernel
theorem d_MD_begin_57 : decode b_MD_begin 57 = .ok (.iload_n 1, 1) := by decide +kernel
theorem d_MD_begin_58 : decode b_MD_begin 58 = .ok (.putfield 131, 3) := by decide +kernel
theorem d_MD_begin_61 : decode b_MD_begin 61 = .ok (.aload_n 0, 1) := by decide +kernel
theorem d_MD_begin_62 : decode b_MD_begin 62 = .ok (.getfield 28, 3) := by decide +kernel
theorem d_MD_begin_65 : decode b_MD_begin 65 = .ok (.iconst 0, 1) := by decide +kernel
theorem d_MD_begin_66 : decode b_MD_begin 66 = .ok (.iconst 0, 1) := by decide +kernel
theorem d_MD_begin_67 : decode b_MD_begin 67 = .ok (.iastore, 1) := by decide +kernel
theorem d_MD_begin_68 : decode b_MD_begin 68 = .ok (.aload_n 0, 1) := by decide +kernel
theorem d_MD_begin_69 : decode b_MD_begin 69 = .ok (.iconst 0, 1) := by decide +kernel
theorem d_MD_begin_70 : decode b_MD_begin 70 = .ok (.putfield 116, 3) := by decide +kernel
theorem d_MD_begin_73 : decode b_MD_begin 73 = .ok (.aload_n 0, 1) := by decide +kernel
theorem d_MD_begin_74 : decode b_MD_begin 74 = .ok (.invokevirtual 134, 3) := by decide +kernel
theorem d_MD_begin_77 : decode b_MD_begin 77 = .ok (.aload_n 0, 1) := by decide +kernel
theorem d_MD_begin_78 : decode b_MD_begin 78 = .ok (.aload_n 0, 1) := by decide +kernel
theorem d_MD_begin_79 : decode b_MD_begin 79 = .ok (.getfield 104, 3) := by decide +kernel
theorem d_MD_begin_82 : decode b_MD_begin 82 = .ok (.putfield 137, 3) := by decide +kernel
theorem d_MD_begin_85 : decode b_MD_begin 85 = .ok (.return_, 1) := by decide +kernel
set_option maxHeartbeats 4000000 in
set_option maxRecDepth 100000 in
theorem c_MD_begin (l : Launch) (D : va_G) (cI cZ : ClassId) (ad : Nat → Nat) (n : Nat) (e : Int32) (x : Int32) (u : tm_SC) (hn : u.1 0 = nI n) (hn2 : n ≤ 100) : tm_V l y_MD_begin b_MD_begin 3 ({ frames := 3, cells := 0, slots := 0, locals := 69 } : Room) D (tm_yM cI cZ) (tm_wM ad cI cZ) [.ref (ad 0), .int (e), .int (x)] u (fun u' => ((ms_np u e ∨ x < 1 ∨ 120 < x) ∧ u' = tm_sf u 13 1) ∨ (¬ (ms_np u e ∨ x < 1 ∨ 120 < x) ∧ ∃ m, ms_MP (ms_bgn u e.toNatClampNeg x) 0 (fun _ => False) m ∧ u' = tm_sf m 4 (m.1 5))) := by
  intro sz
  refine tm_of (Qc := fun A => va_Qv (fun u' => ((ms_np u e ∨ x < 1 ∨ 120 < x) ∧ u' = tm_sf u 13 1) ∨ (¬ (ms_np u e ∨ x < 1 ∨ 120 < x) ∧ ∃ m, ms_MP (ms_bgn u e.toNatClampNeg x) 0 (fun _ => False) m ∧ u' = tm_sf m 4 (m.1 5))) (fun u' t => tm_B D (tm_yM cI cZ) A (tm_wM ad cI cZ u') t) A) (by decide) (Nat.le_of_ble_eq_true rfl) ?_ sz
  intro pg eg sg mg bel met cg A ls X h hl hnm
  have hx := X.1.1
  have hb := X.1.2.1
  have hl : lv_has ls 3 [(0, .ref (ad 0)), (1, .int (e)), (2, .int (x))] := hl
  refine lv_aload_n hx hb d_MD_begin_0 rfl (lv_at hl 0 rfl) ?_
  refine lv_aload_n hx hb d_MD_begin_1 rfl (lv_at hl 0 rfl) ?_
  refine lv_iload_n hx hb d_MD_begin_2 rfl (lv_at hl 1 rfl) ?_
  refine tm_cIf X h (tm_rV (q0 := 0) X h (c_MD_isPart l D cI cZ ad (e) u  _) ki_MD_isPart kw_689 rfl rfl rfl rfl rfl ⟨by decide, by decide⟩ rfl hl.1 rfl (Nat.le_of_ble_eq_true rfl) d_MD_begin_3 ⟨by decide, by decide⟩) (fun H locs h => ?_)
  refine lv_if_eq hx hb d_MD_begin_6 (tgt := 20) rfl (fun h6t => ?_) (fun h6f => ?_)
  · refine lv_iconst (v := 1) hx hb d_MD_begin_20 (by decide) ?_
    refine lv_goto hx hb d_MD_begin_21 (tgt := 25) rfl ?_
    refine tm_put X h uw_MD t_MD t_MD_ok n_MD 0 rfl rfl 30 (by decide) kw_602 rfl rfl (rfl) (rfl) (Nat.le_of_ble_eq_true rfl) (ws' := tm_wM ad cI cZ (tm_sf u 13 (1))) rfl d_MD_begin_25 (fun H locs h => ?_)
    refine lv_aload_n hx hb d_MD_begin_28 rfl (lv_at hl 0 rfl) ?_
    refine tm_get X h uw_MD 0 rfl rfl 30 (by decide) kw_602 rfl rfl d_MD_begin_29 ?_
    refine lv_if_eq hx hb d_MD_begin_32 (tgt := 36) rfl (fun q => absurd q ((fun z => absurd (show (1 : Int32) = 0 from z) (by decide)))) (fun _ => ?_)
    exact tm_vret (w := tm_wM ad cI cZ) (u := (tm_sf u 13 (1))) X h (Or.inl ⟨Or.inl (tm_ite0.mp h6t), rfl⟩) d_MD_begin_35
  · refine lv_iload_n hx hb d_MD_begin_9 rfl (lv_at hl 2 rfl) ?_
    refine lv_iconst (v := 1) hx hb d_MD_begin_10 (by decide) ?_
    refine lv_icmp_lt hx hb d_MD_begin_11 (tgt := 20) rfl (fun h11t => ?_) (fun h11f => ?_)
    · refine lv_iconst (v := 1) hx hb d_MD_begin_20 (by decide) ?_
      refine lv_goto hx hb d_MD_begin_21 (tgt := 25) rfl ?_
      refine tm_put X h uw_MD t_MD t_MD_ok n_MD 0 rfl rfl 30 (by decide) kw_602 rfl rfl (rfl) (rfl) (Nat.le_of_ble_eq_true rfl) (ws' := tm_wM ad cI cZ (tm_sf u 13 (1))) rfl d_MD_begin_25 (fun H locs h => ?_)
      refine lv_aload_n hx hb d_MD_begin_28 rfl (lv_at hl 0 rfl) ?_
      refine tm_get X h uw_MD 0 rfl rfl 30 (by decide) kw_602 rfl rfl d_MD_begin_29 ?_
      refine lv_if_eq hx hb d_MD_begin_32 (tgt := 36) rfl (fun q => absurd q ((fun z => absurd (show (1 : Int32) = 0 from z) (by decide)))) (fun _ => ?_)
      exact tm_vret (w := tm_wM ad cI cZ) (u := (tm_sf u 13 (1))) X h (Or.inl ⟨Or.inr (Or.inl h11t), rfl⟩) d_MD_begin_35
    · refine lv_iload_n hx hb d_MD_begin_14 rfl (lv_at hl 2 rfl) ?_
      refine lv_bipush (v := 120) hx hb d_MD_begin_15 (by decide) ?_
      refine lv_icmp_le hx hb d_MD_begin_17 (tgt := 24) rfl (fun h17t => ?_) (fun h17f => ?_)
      · refine lv_iconst (v := 0) hx hb d_MD_begin_24 (by decide) ?_
        refine tm_put X h uw_MD t_MD t_MD_ok n_MD 0 rfl rfl 30 (by decide) kw_602 rfl rfl (rfl) (rfl) (Nat.le_of_ble_eq_true rfl) (ws' := tm_wM ad cI cZ (tm_sf u 13 (0))) rfl d_MD_begin_25 (fun H locs h => ?_)
        refine lv_aload_n hx hb d_MD_begin_28 rfl (lv_at hl 0 rfl) ?_
        refine tm_get X h uw_MD 0 rfl rfl 30 (by decide) kw_602 rfl rfl d_MD_begin_29 ?_
        refine lv_if_eq hx hb d_MD_begin_32 (tgt := 36) rfl (fun _ => ?_) (fun q => absurd (rfl) q)
        refine lv_aload_n hx hb d_MD_begin_36 rfl (lv_at hl 0 rfl) ?_
        refine lv_iconst (v := 1) hx hb d_MD_begin_37 (by decide) ?_
        refine tm_put X h uw_MD t_MD t_MD_ok n_MD 0 rfl rfl 13 (by decide) kw_585 rfl rfl (rfl) (rfl) (Nat.le_of_ble_eq_true rfl) (ws' := tm_wM ad cI cZ (tm_sf (tm_sf u 13 (0)) 1 (1))) rfl d_MD_begin_38 (fun H locs h => ?_)
        refine lv_aload_n hx hb d_MD_begin_41 rfl (lv_at hl 0 rfl) ?_
        refine lv_iload_n hx hb d_MD_begin_42 rfl (lv_at hl 2 rfl) ?_
        refine tm_put X h uw_MD t_MD t_MD_ok n_MD 0 rfl rfl 14 (by decide) kw_586 rfl rfl (rfl) (rfl) (Nat.le_of_ble_eq_true rfl) (ws' := tm_wM ad cI cZ (tm_sf (tm_sf (tm_sf u 13 (0)) 1 (1)) 2 (x))) rfl d_MD_begin_43 (fun H locs h => ?_)
        refine lv_aload_n hx hb d_MD_begin_46 rfl (lv_at hl 0 rfl) ?_
        refine lv_iconst (v := 0) hx hb d_MD_begin_47 (by decide) ?_
        refine tm_put X h uw_MD t_MD t_MD_ok n_MD 0 rfl rfl 15 (by decide) kw_587 rfl rfl (rfl) (rfl) (Nat.le_of_ble_eq_true rfl) (ws' := tm_wM ad cI cZ (tm_sf (tm_sf (tm_sf (tm_sf u 13 (0)) 1 (1)) 2 (x)) 3 (0))) rfl d_MD_begin_48 (fun H locs h => ?_)
        refine lv_aload_n hx hb d_MD_begin_51 rfl (lv_at hl 0 rfl) ?_
        refine lv_iconst (v := 0) hx hb d_MD_begin_52 (by decide) ?_
        refine tm_put X h uw_MD t_MD t_MD_ok n_MD 0 rfl rfl 19 (by decide) kw_591 rfl rfl (rfl) (rfl) (Nat.le_of_ble_eq_true rfl) (ws' := tm_wM ad cI cZ (tm_sf (tm_sf (tm_sf (tm_sf (tm_sf u 13 (0)) 1 (1)) 2 (x)) 3 (0)) 7 (0))) rfl d_MD_begin_53 (fun H locs h => ?_)
        refine lv_aload_n hx hb d_MD_begin_56 rfl (lv_at hl 0 rfl) ?_
        refine lv_iload_n hx hb d_MD_begin_57 rfl (lv_at hl 1 rfl) ?_
        refine tm_top (y := nI e.toNatClampNeg) ((ms_pt1 (fun q => h6f (tm_ite0.mpr q)) hn hn2).2) ?_
        refine tm_put X h uw_MD t_MD t_MD_ok n_MD 0 rfl rfl 20 (by decide) kw_592 rfl rfl (rfl) (rfl) (Nat.le_of_ble_eq_true rfl) (ws' := tm_wM ad cI cZ (tm_sf (tm_sf (tm_sf (tm_sf (tm_sf (tm_sf u 13 (0)) 1 (1)) 2 (x)) 3 (0)) 7 (0)) 8 (nI e.toNatClampNeg))) rfl d_MD_begin_58 (fun H locs h => ?_)
        refine lv_aload_n hx hb d_MD_begin_61 rfl (lv_at hl 0 rfl) ?_
        refine tm_get X h uw_MD 0 rfl rfl 7 (by decide) kw_579 rfl rfl d_MD_begin_62 ?_
        refine lv_iconst (v := 0) hx hb d_MD_begin_65 (by decide) ?_
        refine lv_iconst (v := 0) hx hb d_MD_begin_66 (by decide) ?_
        refine tm_iast X h 7 0 rfl rfl (0) (by decide) (rfl) (by decide) (ws' := tm_wM ad cI cZ (tm_sa (tm_sf (tm_sf (tm_sf (tm_sf (tm_sf (tm_sf u 13 (0)) 1 (1)) 2 (x)) 3 (0)) 7 (0)) 8 (nI e.toNatClampNeg)) 6 (0) (0))) rfl d_MD_begin_67 (fun H locs h => ?_)
        refine lv_aload_n hx hb d_MD_begin_68 rfl (lv_at hl 0 rfl) ?_
        refine lv_iconst (v := 0) hx hb d_MD_begin_69 (by decide) ?_
        refine tm_put X h uw_MD t_MD t_MD_ok n_MD 0 rfl rfl 23 (by decide) kw_595 rfl rfl (rfl) (rfl) (Nat.le_of_ble_eq_true rfl) (ws' := tm_wM ad cI cZ (tm_sf (tm_sa (tm_sf (tm_sf (tm_sf (tm_sf (tm_sf (tm_sf u 13 (0)) 1 (1)) 2 (x)) 3 (0)) 7 (0)) 8 (nI e.toNatClampNeg)) 6 (0) (0)) 11 (0))) rfl d_MD_begin_70 (fun H locs h => ?_)
        refine lv_aload_n hx hb d_MD_begin_73 rfl (lv_at hl 0 rfl) ?_
        refine tm_cV X h (tm_rV (q0 := 0) X h (c_MD_measure l D cI cZ ad (0) (fun _ => False) (tm_sf (tm_sa (tm_sf (tm_sf (tm_sf (tm_sf (tm_sf (tm_sf u 13 (0)) 1 (1)) 2 (x)) 3 (0)) 7 (0)) 8 (nI e.toNatClampNeg)) 6 (0) (0)) 11 (0)) (ms_bgn_MI u e.toNatClampNeg x) _) ki_MD_measure kw_724 rfl rfl rfl rfl rfl ⟨by decide, by decide⟩ rfl hl.1 rfl (Nat.le_of_ble_eq_true rfl) d_MD_begin_74 ⟨by decide, by decide⟩) (fun u74 H locs hp74 h => ?_)
        refine lv_aload_n hx hb d_MD_begin_77 rfl (lv_at hl 0 rfl) ?_
        refine lv_aload_n hx hb d_MD_begin_78 rfl (lv_at hl 0 rfl) ?_
        refine tm_get X h uw_MD 0 rfl rfl 17 (by decide) kw_589 rfl rfl d_MD_begin_79 ?_
        refine tm_put X h uw_MD t_MD t_MD_ok n_MD 0 rfl rfl 16 (by decide) kw_588 rfl rfl (rfl) (rfl) (Nat.le_of_ble_eq_true rfl) (ws' := tm_wM ad cI cZ (tm_sf u74 4 (((u74).1 5)))) rfl d_MD_begin_82 (fun H locs h => ?_)
        exact tm_vret (w := tm_wM ad cI cZ) (u := (tm_sf u74 4 (((u74).1 5)))) X h (Or.inr ⟨fun q => q.elim (fun z => h6f (tm_ite0.mpr z)) (fun q => q.elim h11f (Int32.not_lt.mpr h17t)), u74, hp74, rfl⟩) d_MD_begin_85
      · refine lv_iconst (v := 1) hx hb d_MD_begin_20 (by decide) ?_
        refine lv_goto hx hb d_MD_begin_21 (tgt := 25) rfl ?_
        refine tm_put X h uw_MD t_MD t_MD_ok n_MD 0 rfl rfl 30 (by decide) kw_602 rfl rfl (rfl) (rfl) (Nat.le_of_ble_eq_true rfl) (ws' := tm_wM ad cI cZ (tm_sf u 13 (1))) rfl d_MD_begin_25 (fun H locs h => ?_)
        refine lv_aload_n hx hb d_MD_begin_28 rfl (lv_at hl 0 rfl) ?_
        refine tm_get X h uw_MD 0 rfl rfl 30 (by decide) kw_602 rfl rfl d_MD_begin_29 ?_
        refine lv_if_eq hx hb d_MD_begin_32 (tgt := 36) rfl (fun q => absurd q ((fun z => absurd (show (1 : Int32) = 0 from z) (by decide)))) (fun _ => ?_)
        exact tm_vret (w := tm_wM ad cI cZ) (u := (tm_sf u 13 (1))) X h (Or.inl ⟨Or.inr (Or.inr (Int32.not_le.mp h17f)), rfl⟩) d_MD_begin_35
