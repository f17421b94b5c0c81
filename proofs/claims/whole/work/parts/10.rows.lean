theorem kw_4 : (Jvm.Cond.initialized "TrimmedMachine$Rows") ∈ tm_wa := tm_tb (List.mem_append_left _ (List.mem_of_getElem? (i := 4) (by decide +kernel))) rfl
theorem kw_13 : (Jvm.Cond.initialized "TrimmedMachine$Values") ∈ tm_wa := tm_tb (List.mem_append_left _ (List.mem_of_getElem? (i := 13) (by decide +kernel))) rfl
theorem kw_16 : (Jvm.Cond.initialized "java/lang/System") ∈ tm_wa := tm_tb (List.mem_append_left _ (List.mem_of_getElem? (i := 16) (by decide +kernel))) rfl
theorem kw_78 : (Jvm.Cond.fieldLink "TrimmedMachine$Rows" (11 : Nat) "TrimmedMachine$Rows" "given" "[I") ∈ tm_wa := tm_tb (List.mem_append_left _ (List.mem_of_getElem? (i := 78) (by decide +kernel))) rfl
theorem kw_80 : (Jvm.Cond.fieldLink "TrimmedMachine$Rows" (15 : Nat) "TrimmedMachine$Rows" "values" "[J") ∈ tm_wa := tm_tb (List.mem_append_left _ (List.mem_of_getElem? (i := 80) (by decide +kernel))) rfl
theorem kw_348 : (Jvm.Cond.instanceMethod ({ cls := "TrimmedMachine$Rows", name := "trim", desc := "(II)V" } : Jvm.MethodName)) ∈ tm_wa := tm_tb (List.mem_append_right _ (List.mem_append_left _ (List.mem_of_getElem? (i := 108) (by decide +kernel)))) rfl
theorem kw_349 : (Jvm.Cond.code ({ cls := "TrimmedMachine$Rows", name := "trim", desc := "(II)V" } : Jvm.MethodName) prog_4_method_10_code (3 : Nat) (Option.none : Option Jvm.ClassFile.FieldType)) ∈ tm_wa := tm_tb (List.mem_append_right _ (List.mem_append_left _ (List.mem_of_getElem? (i := 109) (rfl)))) rfl
theorem kw_372 : (Jvm.Cond.instanceMethod ({ cls := "TrimmedMachine$Rows", name := "gives", desc := "(II)Z" } : Jvm.MethodName)) ∈ tm_wa := tm_tb (List.mem_append_right _ (List.mem_append_left _ (List.mem_of_getElem? (i := 132) (by decide +kernel)))) rfl
theorem kw_373 : (Jvm.Cond.code ({ cls := "TrimmedMachine$Rows", name := "gives", desc := "(II)Z" } : Jvm.MethodName) prog_4_method_4_code (3 : Nat) (Option.some Jvm.ClassFile.FieldType.boolean)) ∈ tm_wa := tm_tb (List.mem_append_right _ (List.mem_append_left _ (List.mem_of_getElem? (i := 133) (rfl)))) rfl
theorem kw_376 : (Jvm.Cond.instanceMethod ({ cls := "TrimmedMachine$Rows", name := "get", desc := "(II)J" } : Jvm.MethodName)) ∈ tm_wa := tm_tb (List.mem_append_right _ (List.mem_append_left _ (List.mem_of_getElem? (i := 136) (by decide +kernel)))) rfl
theorem kw_377 : (Jvm.Cond.code ({ cls := "TrimmedMachine$Rows", name := "get", desc := "(II)J" } : Jvm.MethodName) prog_4_method_5_code (3 : Nat) (Option.some Jvm.ClassFile.FieldType.long)) ∈ tm_wa := tm_tb (List.mem_append_right _ (List.mem_append_left _ (List.mem_of_getElem? (i := 137) (rfl)))) rfl
theorem kw_379 : (Jvm.Cond.static ({ cls := "TrimmedMachine$Values", name := "standsForClosure", desc := "(J)Z" } : Jvm.MethodName)) ∈ tm_wa := tm_tb (List.mem_append_right _ (List.mem_append_left _ (List.mem_of_getElem? (i := 139) (by decide +kernel)))) rfl
theorem kw_380 : (Jvm.Cond.code ({ cls := "TrimmedMachine$Values", name := "standsForClosure", desc := "(J)Z" } : Jvm.MethodName) prog_6_method_3_code (2 : Nat) (Option.some Jvm.ClassFile.FieldType.boolean)) ∈ tm_wa := tm_tb (List.mem_append_right _ (List.mem_append_left _ (List.mem_of_getElem? (i := 140) (rfl)))) rfl
theorem kw_381 : (Jvm.Cond.constantLong "TrimmedMachine$Values" (9 : Nat) (4294967296 : Int64)) ∈ tm_wa := tm_tb (List.mem_append_right _ (List.mem_append_left _ (List.mem_of_getElem? (i := 141) (by decide +kernel)))) rfl
theorem kw_383 : (Jvm.Cond.static ({ cls := "TrimmedMachine$Values", name := "slotOf", desc := "(J)I" } : Jvm.MethodName)) ∈ tm_wa := tm_tb (List.mem_append_right _ (List.mem_append_left _ (List.mem_of_getElem? (i := 143) (by decide +kernel)))) rfl
theorem kw_384 : (Jvm.Cond.code ({ cls := "TrimmedMachine$Values", name := "slotOf", desc := "(J)I" } : Jvm.MethodName) prog_6_method_4_code (2 : Nat) (Option.some Jvm.ClassFile.FieldType.int)) ∈ tm_wa := tm_tb (List.mem_append_right _ (List.mem_append_left _ (List.mem_of_getElem? (i := 144) (rfl)))) rfl
theorem kw_396 : (Jvm.Cond.static ({ cls := "TrimmedMachine$Rows", name := "ofFrame", desc := "(I)I" } : Jvm.MethodName)) ∈ tm_wa := tm_tb (List.mem_append_right _ (List.mem_append_left _ (List.mem_of_getElem? (i := 156) (by decide +kernel)))) rfl
theorem kw_397 : (Jvm.Cond.code ({ cls := "TrimmedMachine$Rows", name := "ofFrame", desc := "(I)I" } : Jvm.MethodName) prog_4_method_2_code (1 : Nat) (Option.some Jvm.ClassFile.FieldType.int)) ∈ tm_wa := tm_tb (List.mem_append_right _ (List.mem_append_left _ (List.mem_of_getElem? (i := 157) (rfl)))) rfl
theorem kw_399 : (Jvm.Cond.static ({ cls := "TrimmedMachine$Rows", name := "ofClosure", desc := "(I)I" } : Jvm.MethodName)) ∈ tm_wa := tm_tb (List.mem_append_right _ (List.mem_append_left _ (List.mem_of_getElem? (i := 159) (by decide +kernel)))) rfl
theorem kw_400 : (Jvm.Cond.code ({ cls := "TrimmedMachine$Rows", name := "ofClosure", desc := "(I)I" } : Jvm.MethodName) prog_4_method_3_code (1 : Nat) (Option.some Jvm.ClassFile.FieldType.int)) ∈ tm_wa := tm_tb (List.mem_append_right _ (List.mem_append_left _ (List.mem_of_getElem? (i := 160) (rfl)))) rfl
theorem kw_425 : (Jvm.Cond.instanceMethod ({ cls := "TrimmedMachine$Rows", name := "setSingle", desc := "(IJ)V" } : Jvm.MethodName)) ∈ tm_wa := tm_tb (List.mem_append_right _ (List.mem_append_left _ (List.mem_of_getElem? (i := 185) (by decide +kernel)))) rfl
theorem kw_426 : (Jvm.Cond.code ({ cls := "TrimmedMachine$Rows", name := "setSingle", desc := "(IJ)V" } : Jvm.MethodName) prog_4_method_8_code (4 : Nat) (Option.none : Option Jvm.ClassFile.FieldType)) ∈ tm_wa := tm_tb (List.mem_append_right _ (List.mem_append_left _ (List.mem_of_getElem? (i := 186) (rfl)))) rfl
theorem kw_427 : (Jvm.Cond.methodLink "TrimmedMachine$Rows" (23 : Nat) ({ cls := "TrimmedMachine$Rows", name := "give", desc := "(IIJ)V" } : Jvm.MethodName)) ∈ tm_wa := tm_tb (List.mem_append_right _ (List.mem_append_left _ (List.mem_of_getElem? (i := 187) (by decide +kernel)))) rfl
theorem kw_429 : (Jvm.Cond.instanceMethod ({ cls := "TrimmedMachine$Rows", name := "give", desc := "(IIJ)V" } : Jvm.MethodName)) ∈ tm_wa := tm_tb (List.mem_append_right _ (List.mem_append_left _ (List.mem_of_getElem? (i := 189) (by decide +kernel)))) rfl
theorem kw_430 : (Jvm.Cond.code ({ cls := "TrimmedMachine$Rows", name := "give", desc := "(IIJ)V" } : Jvm.MethodName) prog_4_method_7_code (5 : Nat) (Option.none : Option Jvm.ClassFile.FieldType)) ∈ tm_wa := tm_tb (List.mem_append_right _ (List.mem_append_left _ (List.mem_of_getElem? (i := 190) (rfl)))) rfl
theorem kw_464 : (Jvm.Cond.instanceMethod ({ cls := "TrimmedMachine$Rows", name := "copyTrimmed", desc := "(III)V" } : Jvm.MethodName)) ∈ tm_wa := tm_tb (List.mem_append_right _ (List.mem_append_left _ (List.mem_of_getElem? (i := 224) (by decide +kernel)))) rfl
theorem kw_465 : (Jvm.Cond.code ({ cls := "TrimmedMachine$Rows", name := "copyTrimmed", desc := "(III)V" } : Jvm.MethodName) prog_4_method_11_code (4 : Nat) (Option.none : Option Jvm.ClassFile.FieldType)) ∈ tm_wa := tm_tb (List.mem_append_right _ (List.mem_append_left _ (List.mem_of_getElem? (i := 225) (rfl)))) rfl
theorem kw_466 : (Jvm.Cond.methodLink "TrimmedMachine$Rows" (33 : Nat) ({ cls := "TrimmedMachine$Rows", name := "copy", desc := "(II)V" } : Jvm.MethodName)) ∈ tm_wa := tm_tb (List.mem_append_right _ (List.mem_append_left _ (List.mem_of_getElem? (i := 226) (by decide +kernel)))) rfl
theorem kw_468 : (Jvm.Cond.instanceMethod ({ cls := "TrimmedMachine$Rows", name := "copy", desc := "(II)V" } : Jvm.MethodName)) ∈ tm_wa := tm_tb (List.mem_append_right _ (List.mem_append_left _ (List.mem_of_getElem? (i := 228) (by decide +kernel)))) rfl
theorem kw_469 : (Jvm.Cond.code ({ cls := "TrimmedMachine$Rows", name := "copy", desc := "(II)V" } : Jvm.MethodName) prog_4_method_9_code (3 : Nat) (Option.none : Option Jvm.ClassFile.FieldType)) ∈ tm_wa := tm_tb (List.mem_append_right _ (List.mem_append_left _ (List.mem_of_getElem? (i := 229) (rfl)))) rfl
theorem kw_470 : (Jvm.Cond.methodLink "TrimmedMachine$Rows" (27 : Nat) ({ cls := "java/lang/System", name := "arraycopy", desc := "(Ljava/lang/Object;ILjava/lang/Object;II)V" } : Jvm.MethodName)) ∈ tm_wa := tm_tb (List.mem_append_right _ (List.mem_append_left _ (List.mem_of_getElem? (i := 230) (by decide +kernel)))) rfl
theorem kw_471 : (Jvm.Cond.static ({ cls := "java/lang/System", name := "arraycopy", desc := "(Ljava/lang/Object;ILjava/lang/Object;II)V" } : Jvm.MethodName)) ∈ tm_wa := tm_tb (List.mem_append_right _ (List.mem_append_left _ (List.mem_of_getElem? (i := 231) (by decide +kernel)))) rfl
theorem kw_472 : (Jvm.Cond.native ({ cls := "java/lang/System", name := "arraycopy", desc := "(Ljava/lang/Object;ILjava/lang/Object;II)V" } : Jvm.MethodName)) ∈ tm_wa := tm_tb (List.mem_append_right _ (List.mem_append_left _ (List.mem_of_getElem? (i := 232) (by decide +kernel)))) rfl
theorem kw_473 : (Jvm.Cond.methodLink "TrimmedMachine$Rows" (37 : Nat) ({ cls := "TrimmedMachine$Rows", name := "trim", desc := "(II)V" } : Jvm.MethodName)) ∈ tm_wa := tm_tb (List.mem_append_right _ (List.mem_append_left _ (List.mem_of_getElem? (i := 233) (by decide +kernel)))) rfl
theorem kw_475 : (Jvm.Cond.static ({ cls := "TrimmedMachine$Values", name := "ofClosure", desc := "(I)J" } : Jvm.MethodName)) ∈ tm_wa := tm_tb (List.mem_append_right _ (List.mem_append_left _ (List.mem_of_getElem? (i := 235) (by decide +kernel)))) rfl
theorem kw_476 : (Jvm.Cond.code ({ cls := "TrimmedMachine$Values", name := "ofClosure", desc := "(I)J" } : Jvm.MethodName) prog_6_method_2_code (1 : Nat) (Option.some Jvm.ClassFile.FieldType.long)) ∈ tm_wa := tm_tb (List.mem_append_right _ (List.mem_append_left _ (List.mem_of_getElem? (i := 236) (rfl)))) rfl
theorem kw_492 : (Jvm.Cond.instanceMethod ({ cls := "TrimmedMachine$Rows", name := "single", desc := "(I)J" } : Jvm.MethodName)) ∈ tm_wa := tm_tb (List.mem_append_right _ (List.mem_append_right _ (List.mem_append_left _ (List.mem_of_getElem? (i := 12) (by decide +kernel))))) rfl
theorem kw_493 : (Jvm.Cond.code ({ cls := "TrimmedMachine$Rows", name := "single", desc := "(I)J" } : Jvm.MethodName) prog_4_method_6_code (2 : Nat) (Option.some Jvm.ClassFile.FieldType.long)) ∈ tm_wa := tm_tb (List.mem_append_right _ (List.mem_append_right _ (List.mem_append_left _ (List.mem_of_getElem? (i := 13) (rfl))))) rfl
theorem kw_494 : (Jvm.Cond.methodLink "TrimmedMachine$Rows" (19 : Nat) ({ cls := "TrimmedMachine$Rows", name := "get", desc := "(II)J" } : Jvm.MethodName)) ∈ tm_wa := tm_tb (List.mem_append_right _ (List.mem_append_right _ (List.mem_append_left _ (List.mem_of_getElem? (i := 14) (by decide +kernel))))) rfl
abbrev y_VA_ofClosure : MethodName := { cls := "TrimmedMachine$Values", name := "ofClosure", desc := "(I)J" }
abbrev b_VA_ofClosure : ByteArray := prog_6_method_2_code
theorem ks_VA_ofClosure : tm_ks y_VA_ofClosure b_VA_ofClosure 1 (some .long) 1 := ⟨⟨kw_13, kw_476, by decide, by decide, by decide +kernel⟩, kw_475⟩
abbrev y_VA_standsForClosure : MethodName := { cls := "TrimmedMachine$Values", name := "standsForClosure", desc := "(J)Z" }
abbrev b_VA_standsForClosure : ByteArray := prog_6_method_3_code
theorem ks_VA_standsForClosure : tm_ks y_VA_standsForClosure b_VA_standsForClosure 2 (some .boolean) 1 := ⟨⟨kw_13, kw_380, by decide, by decide, by decide +kernel⟩, kw_379⟩
abbrev y_VA_slotOf : MethodName := { cls := "TrimmedMachine$Values", name := "slotOf", desc := "(J)I" }
abbrev b_VA_slotOf : ByteArray := prog_6_method_4_code
theorem ks_VA_slotOf : tm_ks y_VA_slotOf b_VA_slotOf 2 (some .int) 1 := ⟨⟨kw_13, kw_384, by decide, by decide, by decide +kernel⟩, kw_383⟩
abbrev y_RW_ofFrame : MethodName := { cls := "TrimmedMachine$Rows", name := "ofFrame", desc := "(I)I" }
abbrev b_RW_ofFrame : ByteArray := prog_4_method_2_code
theorem ks_RW_ofFrame : tm_ks y_RW_ofFrame b_RW_ofFrame 1 (some .int) 1 := ⟨⟨kw_4, kw_397, by decide, by decide, by decide +kernel⟩, kw_396⟩
abbrev y_RW_ofClosure : MethodName := { cls := "TrimmedMachine$Rows", name := "ofClosure", desc := "(I)I" }
abbrev b_RW_ofClosure : ByteArray := prog_4_method_3_code
theorem ks_RW_ofClosure : tm_ks y_RW_ofClosure b_RW_ofClosure 1 (some .int) 1 := ⟨⟨kw_4, kw_400, by decide, by decide, by decide +kernel⟩, kw_399⟩
abbrev y_RW_gives : MethodName := { cls := "TrimmedMachine$Rows", name := "gives", desc := "(II)Z" }
abbrev b_RW_gives : ByteArray := prog_4_method_4_code
theorem ki_RW_gives : tm_ki y_RW_gives b_RW_gives 3 (some .boolean) 2 := ⟨⟨kw_4, kw_373, by decide, by decide, by decide +kernel⟩, kw_372, tm_sel (n := 2) (List.mem_append_left _ (List.mem_of_getElem? (i := 12) rfl))⟩
abbrev y_RW_get : MethodName := { cls := "TrimmedMachine$Rows", name := "get", desc := "(II)J" }
abbrev b_RW_get : ByteArray := prog_4_method_5_code
theorem ki_RW_get : tm_ki y_RW_get b_RW_get 3 (some .long) 2 := ⟨⟨kw_4, kw_377, by decide, by decide, by decide +kernel⟩, kw_376, tm_sel (n := 2) (List.mem_append_left _ (List.mem_of_getElem? (i := 13) rfl))⟩
abbrev y_RW_single : MethodName := { cls := "TrimmedMachine$Rows", name := "single", desc := "(I)J" }
abbrev b_RW_single : ByteArray := prog_4_method_6_code
theorem ki_RW_single : tm_ki y_RW_single b_RW_single 2 (some .long) 1 := ⟨⟨kw_4, kw_493, by decide, by decide, by decide +kernel⟩, kw_492, tm_sel (n := 2) (List.mem_append_right _ (List.mem_append_left _ (List.mem_of_getElem? (i := 12) rfl)))⟩
abbrev y_RW_give : MethodName := { cls := "TrimmedMachine$Rows", name := "give", desc := "(IIJ)V" }
abbrev b_RW_give : ByteArray := prog_4_method_7_code
theorem ki_RW_give : tm_ki y_RW_give b_RW_give 5 none 3 := ⟨⟨kw_4, kw_430, by decide, by decide, by decide +kernel⟩, kw_429, tm_sel (n := 2) (List.mem_append_right _ (List.mem_append_left _ (List.mem_of_getElem? (i := 3) rfl)))⟩
abbrev y_RW_setSingle : MethodName := { cls := "TrimmedMachine$Rows", name := "setSingle", desc := "(IJ)V" }
abbrev b_RW_setSingle : ByteArray := prog_4_method_8_code
theorem ki_RW_setSingle : tm_ki y_RW_setSingle b_RW_setSingle 4 none 2 := ⟨⟨kw_4, kw_426, by decide, by decide, by decide +kernel⟩, kw_425, tm_sel (n := 2) (List.mem_append_right _ (List.mem_append_left _ (List.mem_of_getElem? (i := 2) rfl)))⟩
abbrev y_RW_trim : MethodName := { cls := "TrimmedMachine$Rows", name := "trim", desc := "(II)V" }
abbrev b_RW_trim : ByteArray := prog_4_method_10_code
theorem ki_RW_trim : tm_ki y_RW_trim b_RW_trim 3 none 2 := ⟨⟨kw_4, kw_349, by decide, by decide, by decide +kernel⟩, kw_348, tm_sel (n := 2) (List.mem_append_left _ (List.mem_of_getElem? (i := 6) rfl))⟩
abbrev y_RW_copy : MethodName := { cls := "TrimmedMachine$Rows", name := "copy", desc := "(II)V" }
abbrev b_RW_copy : ByteArray := prog_4_method_9_code
theorem ki_RW_copy : tm_ki y_RW_copy b_RW_copy 3 none 2 := ⟨⟨kw_4, kw_469, by decide, by decide, by decide +kernel⟩, kw_468, tm_sel (n := 2) (List.mem_append_right _ (List.mem_append_left _ (List.mem_of_getElem? (i := 8) rfl)))⟩
abbrev y_RW_copyTrimmed : MethodName := { cls := "TrimmedMachine$Rows", name := "copyTrimmed", desc := "(III)V" }
abbrev b_RW_copyTrimmed : ByteArray := prog_4_method_11_code
theorem ki_RW_copyTrimmed : tm_ki y_RW_copyTrimmed b_RW_copyTrimmed 4 none 3 := ⟨⟨kw_4, kw_465, by decide, by decide, by decide +kernel⟩, kw_464, tm_sel (n := 2) (List.mem_append_right _ (List.mem_append_left _ (List.mem_of_getElem? (i := 7) rfl)))⟩
theorem d_VA_ofClosure_0 : decode b_VA_ofClosure 0 = .ok (.ldc2_w 9, 3) := by decide +kernel
theorem d_VA_ofClosure_3 : decode b_VA_ofClosure 3 = .ok (.iload_n 0, 1) := by decide +kernel
theorem d_VA_ofClosure_4 : decode b_VA_ofClosure 4 = .ok (.i2l, 1) := by decide +kernel
theorem d_VA_ofClosure_5 : decode b_VA_ofClosure 5 = .ok (.ladd, 1) := by decide +kernel
theorem d_VA_ofClosure_6 : decode b_VA_ofClosure 6 = .ok (.lreturn, 1) := by decide +kernel
set_option maxHeartbeats 4000000 in
set_option maxRecDepth 100000 in
theorem c_VA_ofClosure (l : Launch) (D : va_G) (cI cL cZ : ClassId) (ad : Nat → Nat) (x : Int32) (u : tm_SC)  : tm_L l y_VA_ofClosure b_VA_ofClosure 1 ({ frames := 0, cells := 0, slots := 0, locals := 0 } : Room) D (tm_yC cI cL cZ) (tm_wC ad cI cL cZ) [.int (x)] u (fun r u' => r = (4294967296 + (x).toInt64) ∧ u' = u) := by
  intro sz
  refine tm_of (Qc := fun A => va_Ql (fun r u' => r = (4294967296 + (x).toInt64) ∧ u' = u) (fun u' t => tm_B D (tm_yC cI cL cZ) A (tm_wC ad cI cL cZ u') t) A) (by decide) (Nat.le_of_ble_eq_true rfl) ?_ sz
  intro pg eg sg mg bel met cg A ls X h hl hnm
  have hx := X.1.1
  have hb := X.1.2.1
  have hl : lv_has ls 1 [(0, .int (x))] := hl
  refine lv_ldc2 (v := 4294967296) hx hb X.1.2.2.2.1 (X.1.2.2.2.2 _ kw_381) d_VA_ofClosure_0 ?_
  refine lv_iload_n hx hb d_VA_ofClosure_3 rfl (lv_at hl 0 rfl) ?_
  refine lv_i2l hx hb d_VA_ofClosure_4 rfl ?_
  refine lv_ladd hx hb d_VA_ofClosure_5 ?_
  exact tm_lret (w := tm_wC ad cI cL cZ) (u := u) X h (⟨rfl, rfl⟩) d_VA_ofClosure_6
theorem d_VA_standsForClosure_0 : decode b_VA_standsForClosure 0 = .ok (.lload_n 0, 1) := by decide +kernel
theorem d_VA_standsForClosure_1 : decode b_VA_standsForClosure 1 = .ok (.ldc2_w 9, 3) := by decide +kernel
theorem d_VA_standsForClosure_4 : decode b_VA_standsForClosure 4 = .ok (.lcmp, 1) := by decide +kernel
theorem d_VA_standsForClosure_5 : decode b_VA_standsForClosure 5 = .ok (.ifCond .lt 7, 3) := by decide +kernel
theorem d_VA_standsForClosure_8 : decode b_VA_standsForClosure 8 = .ok (.iconst 1, 1) := by decide +kernel
theorem d_VA_standsForClosure_9 : decode b_VA_standsForClosure 9 = .ok (.goto 4, 3) := by decide +kernel
theorem d_VA_standsForClosure_12 : decode b_VA_standsForClosure 12 = .ok (.iconst 0, 1) := by decide +kernel
theorem d_VA_standsForClosure_13 : decode b_VA_standsForClosure 13 = .ok (.ireturn, 1) := by decide +kernel
set_option maxHeartbeats 4000000 in
set_option maxRecDepth 100000 in
theorem c_VA_standsForClosure (l : Launch) (D : va_G) (cI cL cZ : ClassId) (ad : Nat → Nat) (x : Int64) (u : tm_SC)  : tm_I l y_VA_standsForClosure b_VA_standsForClosure 2 .boolean ({ frames := 0, cells := 0, slots := 0, locals := 0 } : Room) D (tm_yC cI cL cZ) (tm_wC ad cI cL cZ) [.long (x)] u (fun r u' => r = (if x < 4294967296 then 0 else 1) ∧ u' = u) := by
  intro sz
  refine tm_of (Qc := fun A => va_Qi (fun r u' => r = (if x < 4294967296 then 0 else 1) ∧ u' = u) (fun u' t => tm_B D (tm_yC cI cL cZ) A (tm_wC ad cI cL cZ u') t) A) (by decide) (Nat.le_of_ble_eq_true rfl) ?_ sz
  intro pg eg sg mg bel met cg A ls X h hl hnm
  have hx := X.1.1
  have hb := X.1.2.1
  have hl : lv_has ls 2 [(0, .long (x))] := hl
  refine lv_lload_n hx hb d_VA_standsForClosure_0 rfl (lv_at hl 0 rfl) ?_
  refine lv_ldc2 (v := 4294967296) hx hb X.1.2.2.2.1 (X.1.2.2.2.2 _ kw_381) d_VA_standsForClosure_1 ?_
  refine W.lcmp hx hb d_VA_standsForClosure_4 ?_
  refine lv_if_lt hx hb d_VA_standsForClosure_5 (tgt := 12) rfl (fun h5t => ?_) (fun h5f => ?_)
  · refine lv_iconst (v := 0) hx hb d_VA_standsForClosure_12 (by decide) ?_
    exact tm_zret (w := tm_wC ad cI cL cZ) (u := u) X h (rfl) (⟨(if_pos ((lg_cmp_lt _ _).mp h5t)).symm, rfl⟩) d_VA_standsForClosure_13
  · refine lv_iconst (v := 1) hx hb d_VA_standsForClosure_8 (by decide) ?_
    refine lv_goto hx hb d_VA_standsForClosure_9 (tgt := 13) rfl ?_
    exact tm_zret (w := tm_wC ad cI cL cZ) (u := u) X h (rfl) (⟨(if_neg (fun q => h5f ((lg_cmp_lt _ _).mpr q))).symm, rfl⟩) d_VA_standsForClosure_13
theorem d_VA_slotOf_0 : decode b_VA_slotOf 0 = .ok (.lload_n 0, 1) := by decide +kernel
theorem d_VA_slotOf_1 : decode b_VA_slotOf 1 = .ok (.ldc2_w 9, 3) := by decide +kernel
theorem d_VA_slotOf_4 : decode b_VA_slotOf 4 = .ok (.lsub, 1) := by decide +kernel
theorem d_VA_slotOf_5 : decode b_VA_slotOf 5 = .ok (.l2i, 1) := by decide +kernel
theorem d_VA_slotOf_6 : decode b_VA_slotOf 6 = .ok (.ireturn, 1) := by decide +kernel
set_option maxHeartbeats 4000000 in
set_option maxRecDepth 100000 in
theorem c_VA_slotOf (l : Launch) (D : va_G) (cI cL cZ : ClassId) (ad : Nat → Nat) (x : Int64) (u : tm_SC)  : tm_I l y_VA_slotOf b_VA_slotOf 2 .int ({ frames := 0, cells := 0, slots := 0, locals := 0 } : Room) D (tm_yC cI cL cZ) (tm_wC ad cI cL cZ) [.long (x)] u (fun r u' => r = ((x - 4294967296).toInt32) ∧ u' = u) := by
  intro sz
  refine tm_of (Qc := fun A => va_Qi (fun r u' => r = ((x - 4294967296).toInt32) ∧ u' = u) (fun u' t => tm_B D (tm_yC cI cL cZ) A (tm_wC ad cI cL cZ u') t) A) (by decide) (Nat.le_of_ble_eq_true rfl) ?_ sz
  intro pg eg sg mg bel met cg A ls X h hl hnm
  have hx := X.1.1
  have hb := X.1.2.1
  have hl : lv_has ls 2 [(0, .long (x))] := hl
  refine lv_lload_n hx hb d_VA_slotOf_0 rfl (lv_at hl 0 rfl) ?_
  refine lv_ldc2 (v := 4294967296) hx hb X.1.2.2.2.1 (X.1.2.2.2.2 _ kw_381) d_VA_slotOf_1 ?_
  refine lv_lsub hx hb d_VA_slotOf_4 ?_
  refine lv_l2i hx hb d_VA_slotOf_5 rfl ?_
  exact tm_iret (w := tm_wC ad cI cL cZ) (u := u) X h (⟨rfl, rfl⟩) d_VA_slotOf_6
theorem d_RW_ofFrame_0 : decode b_RW_ofFrame 0 = .ok (.iconst 1, 1) := by decide +kernel
theorem d_RW_ofFrame_1 : decode b_RW_ofFrame 1 = .ok (.iload_n 0, 1) := by decide +kernel
theorem d_RW_ofFrame_2 : decode b_RW_ofFrame 2 = .ok (.iadd, 1) := by decide +kernel
theorem d_RW_ofFrame_3 : decode b_RW_ofFrame 3 = .ok (.ireturn, 1) := by decide +kernel
set_option maxHeartbeats 4000000 in
set_option maxRecDepth 100000 in
theorem c_RW_ofFrame (l : Launch) (D : va_G) (cI cL cZ : ClassId) (ad : Nat → Nat) (f : Nat) (u : tm_SC)  : tm_I l y_RW_ofFrame b_RW_ofFrame 1 .int ({ frames := 0, cells := 0, slots := 0, locals := 0 } : Room) D (tm_yC cI cL cZ) (tm_wC ad cI cL cZ) [.int (nI f)] u (fun r u' => r = (nI (1 + f)) ∧ u' = u) := by
  intro sz
  refine tm_of (Qc := fun A => va_Qi (fun r u' => r = (nI (1 + f)) ∧ u' = u) (fun u' t => tm_B D (tm_yC cI cL cZ) A (tm_wC ad cI cL cZ u') t) A) (by decide) (Nat.le_of_ble_eq_true rfl) ?_ sz
  intro pg eg sg mg bel met cg A ls X h hl hnm
  have hx := X.1.1
  have hb := X.1.2.1
  have hl : lv_has ls 1 [(0, .int (nI f))] := hl
  refine lv_iconst (v := 1) hx hb d_RW_ofFrame_0 (by decide) ?_
  refine lv_iload_n hx hb d_RW_ofFrame_1 rfl (lv_at hl 0 rfl) ?_
  refine lv_iadd hx hb d_RW_ofFrame_2 ?_
  exact tm_iret (w := tm_wC ad cI cL cZ) (u := u) X h (⟨nI_add 1 f, rfl⟩) d_RW_ofFrame_3
theorem d_RW_ofClosure_0 : decode b_RW_ofClosure 0 = .ok (.bipush 121, 2) := by decide +kernel
theorem d_RW_ofClosure_2 : decode b_RW_ofClosure 2 = .ok (.iload_n 0, 1) := by decide +kernel
theorem d_RW_ofClosure_3 : decode b_RW_ofClosure 3 = .ok (.iadd, 1) := by decide +kernel
theorem d_RW_ofClosure_4 : decode b_RW_ofClosure 4 = .ok (.ireturn, 1) := by decide +kernel
set_option maxHeartbeats 4000000 in
set_option maxRecDepth 100000 in
theorem c_RW_ofClosure (l : Launch) (D : va_G) (cI cL cZ : ClassId) (ad : Nat → Nat) (f : Nat) (u : tm_SC)  : tm_I l y_RW_ofClosure b_RW_ofClosure 1 .int ({ frames := 0, cells := 0, slots := 0, locals := 0 } : Room) D (tm_yC cI cL cZ) (tm_wC ad cI cL cZ) [.int (nI f)] u (fun r u' => r = (nI (121 + f)) ∧ u' = u) := by
  intro sz
  refine tm_of (Qc := fun A => va_Qi (fun r u' => r = (nI (121 + f)) ∧ u' = u) (fun u' t => tm_B D (tm_yC cI cL cZ) A (tm_wC ad cI cL cZ u') t) A) (by decide) (Nat.le_of_ble_eq_true rfl) ?_ sz
  intro pg eg sg mg bel met cg A ls X h hl hnm
  have hx := X.1.1
  have hb := X.1.2.1
  have hl : lv_has ls 1 [(0, .int (nI f))] := hl
  refine lv_bipush (v := 121) hx hb d_RW_ofClosure_0 (by decide) ?_
  refine lv_iload_n hx hb d_RW_ofClosure_2 rfl (lv_at hl 0 rfl) ?_
  refine lv_iadd hx hb d_RW_ofClosure_3 ?_
  exact tm_iret (w := tm_wC ad cI cL cZ) (u := u) X h (⟨nI_add 121 f, rfl⟩) d_RW_ofClosure_4
theorem d_RW_gives_0 : decode b_RW_gives 0 = .ok (.aload_n 0, 1) := by decide +kernel
theorem d_RW_gives_1 : decode b_RW_gives 1 = .ok (.getfield 11, 3) := by decide +kernel
theorem d_RW_gives_4 : decode b_RW_gives 4 = .ok (.iload_n 1, 1) := by decide +kernel
theorem d_RW_gives_5 : decode b_RW_gives 5 = .ok (.iaload, 1) := by decide +kernel
theorem d_RW_gives_6 : decode b_RW_gives 6 = .ok (.iload_n 2, 1) := by decide +kernel
theorem d_RW_gives_7 : decode b_RW_gives 7 = .ok (.iushr, 1) := by decide +kernel
theorem d_RW_gives_8 : decode b_RW_gives 8 = .ok (.iconst 1, 1) := by decide +kernel
theorem d_RW_gives_9 : decode b_RW_gives 9 = .ok (.iand, 1) := by decide +kernel
theorem d_RW_gives_10 : decode b_RW_gives 10 = .ok (.ifCond .eq 7, 3) := by decide +kernel
theorem d_RW_gives_13 : decode b_RW_gives 13 = .ok (.iconst 1, 1) := by decide +kernel
theorem d_RW_gives_14 : decode b_RW_gives 14 = .ok (.goto 4, 3) := by decide +kernel
theorem d_RW_gives_17 : decode b_RW_gives 17 = .ok (.iconst 0, 1) := by decide +kernel
theorem d_RW_gives_18 : decode b_RW_gives 18 = .ok (.ireturn, 1) := by decide +kernel
set_option maxHeartbeats 4000000 in
set_option maxRecDepth 100000 in
theorem c_RW_gives (l : Launch) (D : va_G) (cI cL cZ : ClassId) (ad : Nat → Nat) (i : Nat) (q : Int32) (u : tm_SC) (hi : i < 241) : tm_I l y_RW_gives b_RW_gives 3 .boolean ({ frames := 0, cells := 0, slots := 0, locals := 0 } : Room) D (tm_yC cI cL cZ) (tm_wC ad cI cL cZ) [.ref (ad 11), .int (nI i), .int (q)] u (fun r u' => r = (if cs_bt (u.2.1 8 i) q = 0 then 0 else 1) ∧ u' = u) := by
  intro sz
  refine tm_of (Qc := fun A => va_Qi (fun r u' => r = (if cs_bt (u.2.1 8 i) q = 0 then 0 else 1) ∧ u' = u) (fun u' t => tm_B D (tm_yC cI cL cZ) A (tm_wC ad cI cL cZ u') t) A) (by decide) (Nat.le_of_ble_eq_true rfl) ?_ sz
  intro pg eg sg mg bel met cg A ls X h hl hnm
  have hx := X.1.1
  have hb := X.1.2.1
  have hl : lv_has ls 3 [(0, .ref (ad 11)), (1, .int (nI i)), (2, .int (q))] := hl
  refine lv_aload_n hx hb d_RW_gives_0 rfl (lv_at hl 0 rfl) ?_
  refine tm_get X h uw_RW 11 rfl rfl 0 (by decide) kw_78 rfl rfl d_RW_gives_1 ?_
  refine lv_iload_n hx hb d_RW_gives_4 rfl (lv_at hl 1 rfl) ?_
  refine tm_iald X h 12 0 rfl rfl (i) (by omega) (rfl) (by decide) d_RW_gives_5 ?_
  refine lv_iload_n hx hb d_RW_gives_6 rfl (lv_at hl 2 rfl) ?_
  refine lv_iushr hx hb d_RW_gives_7 rfl ?_
  refine lv_iconst (v := 1) hx hb d_RW_gives_8 (by decide) ?_
  refine lv_iand hx hb d_RW_gives_9 ?_
  refine lv_if_eq hx hb d_RW_gives_10 (tgt := 17) rfl (fun h10t => ?_) (fun h10f => ?_)
  · refine lv_iconst (v := 0) hx hb d_RW_gives_17 (by decide) ?_
    exact tm_zret (w := tm_wC ad cI cL cZ) (u := u) X h (rfl) (⟨(if_pos h10t).symm, rfl⟩) d_RW_gives_18
  · refine lv_iconst (v := 1) hx hb d_RW_gives_13 (by decide) ?_
    refine lv_goto hx hb d_RW_gives_14 (tgt := 18) rfl ?_
    exact tm_zret (w := tm_wC ad cI cL cZ) (u := u) X h (rfl) (⟨(if_neg h10f).symm, rfl⟩) d_RW_gives_18
theorem d_RW_get_0 : decode b_RW_get 0 = .ok (.aload_n 0, 1) := by decide +kernel
theorem d_RW_get_1 : decode b_RW_get 1 = .ok (.getfield 15, 3) := by decide +kernel
theorem d_RW_get_4 : decode b_RW_get 4 = .ok (.iload_n 1, 1) := by decide +kernel
theorem d_RW_get_5 : decode b_RW_get 5 = .ok (.bipush 8, 2) := by decide +kernel
theorem d_RW_get_7 : decode b_RW_get 7 = .ok (.imul, 1) := by decide +kernel
theorem d_RW_get_8 : decode b_RW_get 8 = .ok (.iload_n 2, 1) := by decide +kernel
theorem d_RW_get_9 : decode b_RW_get 9 = .ok (.iadd, 1) := by decide +kernel
theorem d_RW_get_10 : decode b_RW_get 10 = .ok (.laload, 1) := by decide +kernel
theorem d_RW_get_11 : decode b_RW_get 11 = .ok (.lreturn, 1) := by decide +kernel
set_option maxHeartbeats 4000000 in
set_option maxRecDepth 100000 in
theorem c_RW_get (l : Launch) (D : va_G) (cI cL cZ : ClassId) (ad : Nat → Nat) (i : Nat) (p : Nat) (u : tm_SC) (hi : i < 241) (hp : p < 8) : tm_L l y_RW_get b_RW_get 3 ({ frames := 0, cells := 0, slots := 0, locals := 0 } : Room) D (tm_yC cI cL cZ) (tm_wC ad cI cL cZ) [.ref (ad 11), .int (nI i), .int (nI p)] u (fun r u' => r = (u.2.2 (i * 8 + p)) ∧ u' = u) := by
  intro sz
  refine tm_of (Qc := fun A => va_Ql (fun r u' => r = (u.2.2 (i * 8 + p)) ∧ u' = u) (fun u' t => tm_B D (tm_yC cI cL cZ) A (tm_wC ad cI cL cZ u') t) A) (by decide) (Nat.le_of_ble_eq_true rfl) ?_ sz
  intro pg eg sg mg bel met cg A ls X h hl hnm
  have hx := X.1.1
  have hb := X.1.2.1
  have hl : lv_has ls 3 [(0, .ref (ad 11)), (1, .int (nI i)), (2, .int (nI p))] := hl
  refine lv_aload_n hx hb d_RW_get_0 rfl (lv_at hl 0 rfl) ?_
  refine tm_get X h uw_RW 11 rfl rfl 1 (by decide) kw_80 rfl rfl d_RW_get_1 ?_
  refine lv_iload_n hx hb d_RW_get_4 rfl (lv_at hl 1 rfl) ?_
  refine lv_bipush (v := 8) hx hb d_RW_get_5 (by decide) ?_
  refine lv_imul hx hb d_RW_get_7 ?_
  refine lv_iload_n hx hb d_RW_get_8 rfl (lv_at hl 2 rfl) ?_
  refine lv_iadd hx hb d_RW_get_9 ?_
  refine tm_lald X h 13 1 rfl rfl (i * 8 + p) (by omega) (tm_ix8 i p) (by decide) d_RW_get_10 ?_
  exact tm_lret (w := tm_wC ad cI cL cZ) (u := u) X h (⟨rfl, rfl⟩) d_RW_get_11
theorem d_RW_single_0 : decode b_RW_single 0 = .ok (.aload_n 0, 1) := by decide +kernel
theorem d_RW_single_1 : decode b_RW_single 1 = .ok (.iload_n 1, 1) := by decide +kernel
theorem d_RW_single_2 : decode b_RW_single 2 = .ok (.iconst 0, 1) := by decide +kernel
theorem d_RW_single_3 : decode b_RW_single 3 = .ok (.invokevirtual 19, 3) := by decide +kernel
theorem d_RW_single_6 : decode b_RW_single 6 = .ok (.lreturn, 1) := by decide +kernel
set_option maxHeartbeats 4000000 in
set_option maxRecDepth 100000 in
theorem c_RW_single (l : Launch) (D : va_G) (cI cL cZ : ClassId) (ad : Nat → Nat) (i : Nat) (u : tm_SC) (hi : i < 241) : tm_L l y_RW_single b_RW_single 2 ({ frames := 1, cells := 0, slots := 0, locals := 22 } : Room) D (tm_yC cI cL cZ) (tm_wC ad cI cL cZ) [.ref (ad 11), .int (nI i)] u (fun r u' => r = (u.2.2 (i * 8 + 0)) ∧ u' = u) := by
  intro sz
  refine tm_of (Qc := fun A => va_Ql (fun r u' => r = (u.2.2 (i * 8 + 0)) ∧ u' = u) (fun u' t => tm_B D (tm_yC cI cL cZ) A (tm_wC ad cI cL cZ u') t) A) (by decide) (Nat.le_of_ble_eq_true rfl) ?_ sz
  intro pg eg sg mg bel met cg A ls X h hl hnm
  have hx := X.1.1
  have hb := X.1.2.1
  have hl : lv_has ls 2 [(0, .ref (ad 11)), (1, .int (nI i))] := hl
  refine lv_aload_n hx hb d_RW_single_0 rfl (lv_at hl 0 rfl) ?_
  refine lv_iload_n hx hb d_RW_single_1 rfl (lv_at hl 1 rfl) ?_
  refine lv_iconst (v := 0) hx hb d_RW_single_2 (by decide) ?_
  refine tm_cLf X h (tm_rV (q0 := 11) X h (c_RW_get l D cI cL cZ ad (i) (0) u (by omega) (by omega) _) ki_RW_get kw_494 rfl rfl rfl rfl rfl ⟨by decide, by decide⟩ rfl hl.1 rfl (Nat.le_of_ble_eq_true rfl) d_RW_single_3 ⟨by decide, by decide⟩) (fun H locs h => ?_)
  exact tm_lret (w := tm_wC ad cI cL cZ) (u := u) X h (⟨rfl, rfl⟩) d_RW_single_6
theorem d_RW_give_0 : decode b_RW_give 0 = .ok (.aload_n 0, 1) := by decide +kernel
theorem d_RW_give_1 : decode b_RW_give 1 = .ok (.getfield 11, 3) := by decide +kernel
theorem d_RW_give_4 : decode b_RW_give 4 = .ok (.iload_n 1, 1) := by decide +kernel
theorem d_RW_give_5 : decode b_RW_give 5 = .ok (.dup2, 1) := by decide +kernel
theorem d_RW_give_6 : decode b_RW_give 6 = .ok (.iaload, 1) := by decide +kernel
theorem d_RW_give_7 : decode b_RW_give 7 = .ok (.iconst 1, 1) := by decide +kernel
theorem d_RW_give_8 : decode b_RW_give 8 = .ok (.iload_n 2, 1) := by decide +kernel
theorem d_RW_give_9 : decode b_RW_give 9 = .ok (.ishl, 1) := by decide +kernel
theorem d_RW_give_10 : decode b_RW_give 10 = .ok (.ior, 1) := by decide +kernel
theorem d_RW_give_11 : decode b_RW_give 11 = .ok (.iastore, 1) := by decide +kernel
theorem d_RW_give_12 : decode b_RW_give 12 = .ok (.aload_n 0, 1) := by decide +kernel
theorem d_RW_give_13 : decode b_RW_give 13 = .ok (.getfield 15, 3) := by decide +kernel
theorem d_RW_give_16 : decode b_RW_give 16 = .ok (.iload_n 1, 1) := by decide +kernel
theorem d_RW_give_17 : decode b_RW_give 17 = .ok (.bipush 8, 2) := by decide +kernel
theorem d_RW_give_19 : decode b_RW_give 19 = .ok (.imul, 1) := by decide +kernel
theorem d_RW_give_20 : decode b_RW_give 20 = .ok (.iload_n 2, 1) := by decide +kernel
theorem d_RW_give_21 : decode b_RW_give 21 = .ok (.iadd, 1) := by decide +kernel
theorem d_RW_give_22 : decode b_RW_give 22 = .ok (.lload_n 3, 1) := by decide +kernel
theorem d_RW_give_23 : decode b_RW_give 23 = .ok (.lastore, 1) := by decide +kernel
theorem d_RW_give_24 : decode b_RW_give 24 = .ok (.return_, 1) := by decide +kernel
set_option maxHeartbeats 4000000 in
set_option maxRecDepth 100000 in
theorem c_RW_give (l : Launch) (D : va_G) (cI cL cZ : ClassId) (ad : Nat → Nat) (i : Nat) (p : Nat) (x : Int64) (u : tm_SC) (hi : i < 241) (hp : p < 8) : tm_V l y_RW_give b_RW_give 5 ({ frames := 0, cells := 0, slots := 0, locals := 0 } : Room) D (tm_yC cI cL cZ) (tm_wC ad cI cL cZ) [.ref (ad 11), .int (nI i), .int (nI p), .long (x)] u (fun u' => u' = (cs_give u i p x)) := by
  intro sz
  refine tm_of (Qc := fun A => va_Qv (fun u' => u' = (cs_give u i p x)) (fun u' t => tm_B D (tm_yC cI cL cZ) A (tm_wC ad cI cL cZ u') t) A) (by decide) (Nat.le_of_ble_eq_true rfl) ?_ sz
  intro pg eg sg mg bel met cg A ls X h hl hnm
  have hx := X.1.1
  have hb := X.1.2.1
  have hl : lv_has ls 5 [(0, .ref (ad 11)), (1, .int (nI i)), (2, .int (nI p)), (3, .long (x))] := hl
  refine lv_aload_n hx hb d_RW_give_0 rfl (lv_at hl 0 rfl) ?_
  refine tm_get X h uw_RW 11 rfl rfl 0 (by decide) kw_78 rfl rfl d_RW_give_1 ?_
  refine lv_iload_n hx hb d_RW_give_4 rfl (lv_at hl 1 rfl) ?_
  refine lv_dup2_11 hx hb d_RW_give_5 rfl rfl ?_
  refine tm_iald X h 12 0 rfl rfl (i) (by omega) (rfl) (by decide) d_RW_give_6 ?_
  refine lv_iconst (v := 1) hx hb d_RW_give_7 (by decide) ?_
  refine lv_iload_n hx hb d_RW_give_8 rfl (lv_at hl 2 rfl) ?_
  refine lv_ishl hx hb d_RW_give_9 ?_
  refine lv_ior hx hb d_RW_give_10 ?_
  refine tm_iast X h 12 0 rfl rfl (i) (by omega) (rfl) (by decide) (ws' := tm_wC ad cI cL cZ (tm_sa u 8 (i) ((((u).2.1 8 (i)) ||| (1 <<< (nI p &&& 31)))))) rfl d_RW_give_11 (fun H locs h => ?_)
  refine lv_aload_n hx hb d_RW_give_12 rfl (lv_at hl 0 rfl) ?_
  refine tm_get X h uw_RW 11 rfl rfl 1 (by decide) kw_80 rfl rfl d_RW_give_13 ?_
  refine lv_iload_n hx hb d_RW_give_16 rfl (lv_at hl 1 rfl) ?_
  refine lv_bipush (v := 8) hx hb d_RW_give_17 (by decide) ?_
  refine lv_imul hx hb d_RW_give_19 ?_
  refine lv_iload_n hx hb d_RW_give_20 rfl (lv_at hl 2 rfl) ?_
  refine lv_iadd hx hb d_RW_give_21 ?_
  refine lv_lload_n hx hb d_RW_give_22 rfl (lv_at hl 3 rfl) ?_
  refine tm_last X h 13 1 rfl rfl (i * 8 + p) (by omega) (tm_ix8 i p) (by decide) (ws' := tm_wC ad cI cL cZ (tm_sl (tm_sa u 8 (i) ((((u).2.1 8 (i)) ||| (1 <<< (nI p &&& 31))))) (i * 8 + p) (x))) rfl d_RW_give_23 (fun H locs h => ?_)
  exact tm_vret (w := tm_wC ad cI cL cZ) (u := (tm_sl (tm_sa u 8 (i) ((((u).2.1 8 (i)) ||| (1 <<< (nI p &&& 31))))) (i * 8 + p) (x))) X h (rfl) d_RW_give_24
theorem d_RW_setSingle_0 : decode b_RW_setSingle 0 = .ok (.aload_n 0, 1) := by decide +kernel
theorem d_RW_setSingle_1 : decode b_RW_setSingle 1 = .ok (.getfield 11, 3) := by decide +kernel
theorem d_RW_setSingle_4 : decode b_RW_setSingle 4 = .ok (.iload_n 1, 1) := by decide +kernel
theorem d_RW_setSingle_5 : decode b_RW_setSingle 5 = .ok (.iconst 0, 1) := by decide +kernel
theorem d_RW_setSingle_6 : decode b_RW_setSingle 6 = .ok (.iastore, 1) := by decide +kernel
theorem d_RW_setSingle_7 : decode b_RW_setSingle 7 = .ok (.aload_n 0, 1) := by decide +kernel
theorem d_RW_setSingle_8 : decode b_RW_setSingle 8 = .ok (.iload_n 1, 1) := by decide +kernel
theorem d_RW_setSingle_9 : decode b_RW_setSingle 9 = .ok (.iconst 0, 1) := by decide +kernel
theorem d_RW_setSingle_10 : decode b_RW_setSingle 10 = .ok (.lload_n 2, 1) := by decide +kernel
theorem d_RW_setSingle_11 : decode b_RW_setSingle 11 = .ok (.invokevirtual 23, 3) := by decide +kernel
theorem d_RW_setSingle_14 : decode b_RW_setSingle 14 = .ok (.return_, 1) := by decide +kernel
set_option maxHeartbeats 4000000 in
set_option maxRecDepth 100000 in
theorem c_RW_setSingle (l : Launch) (D : va_G) (cI cL cZ : ClassId) (ad : Nat → Nat) (i : Nat) (x : Int64) (u : tm_SC) (hi : i < 241) : tm_V l y_RW_setSingle b_RW_setSingle 4 ({ frames := 1, cells := 0, slots := 0, locals := 24 } : Room) D (tm_yC cI cL cZ) (tm_wC ad cI cL cZ) [.ref (ad 11), .int (nI i), .long (x)] u (fun u' => u' = (cs_set1 u i x)) := by
  intro sz
  refine tm_of (Qc := fun A => va_Qv (fun u' => u' = (cs_set1 u i x)) (fun u' t => tm_B D (tm_yC cI cL cZ) A (tm_wC ad cI cL cZ u') t) A) (by decide) (Nat.le_of_ble_eq_true rfl) ?_ sz
  intro pg eg sg mg bel met cg A ls X h hl hnm
  have hx := X.1.1
  have hb := X.1.2.1
  have hl : lv_has ls 4 [(0, .ref (ad 11)), (1, .int (nI i)), (2, .long (x))] := hl
  refine lv_aload_n hx hb d_RW_setSingle_0 rfl (lv_at hl 0 rfl) ?_
  refine tm_get X h uw_RW 11 rfl rfl 0 (by decide) kw_78 rfl rfl d_RW_setSingle_1 ?_
  refine lv_iload_n hx hb d_RW_setSingle_4 rfl (lv_at hl 1 rfl) ?_
  refine lv_iconst (v := 0) hx hb d_RW_setSingle_5 (by decide) ?_
  refine tm_iast X h 12 0 rfl rfl (i) (by omega) (rfl) (by decide) (ws' := tm_wC ad cI cL cZ (tm_sa u 8 (i) (0))) rfl d_RW_setSingle_6 (fun H locs h => ?_)
  refine lv_aload_n hx hb d_RW_setSingle_7 rfl (lv_at hl 0 rfl) ?_
  refine lv_iload_n hx hb d_RW_setSingle_8 rfl (lv_at hl 1 rfl) ?_
  refine lv_iconst (v := 0) hx hb d_RW_setSingle_9 (by decide) ?_
  refine lv_lload_n hx hb d_RW_setSingle_10 rfl (lv_at hl 2 rfl) ?_
  refine tm_cVf X h (tm_rV (q0 := 11) X h (c_RW_give l D cI cL cZ ad (i) (0) (x) (tm_sa u 8 (i) (0)) (by omega) (by omega) _) ki_RW_give kw_427 rfl rfl rfl rfl rfl ⟨by decide, by decide⟩ rfl hl.1 rfl (Nat.le_of_ble_eq_true rfl) d_RW_setSingle_11 ⟨by decide, by decide⟩) (fun H locs h => ?_)
  exact tm_vret (w := tm_wC ad cI cL cZ) (u := (cs_give (tm_sa u 8 (i) (0)) (i) (0) (x))) X h (rfl) d_RW_setSingle_14
theorem d_RW_trim_0 : decode b_RW_trim 0 = .ok (.aload_n 0, 1) := by decide +kernel
theorem d_RW_trim_1 : decode b_RW_trim 1 = .ok (.getfield 11, 3) := by decide +kernel
theorem d_RW_trim_4 : decode b_RW_trim 4 = .ok (.iload_n 1, 1) := by decide +kernel
theorem d_RW_trim_5 : decode b_RW_trim 5 = .ok (.dup2, 1) := by decide +kernel
theorem d_RW_trim_6 : decode b_RW_trim 6 = .ok (.iaload, 1) := by decide +kernel
theorem d_RW_trim_7 : decode b_RW_trim 7 = .ok (.iload_n 2, 1) := by decide +kernel
theorem d_RW_trim_8 : decode b_RW_trim 8 = .ok (.iand, 1) := by decide +kernel
theorem d_RW_trim_9 : decode b_RW_trim 9 = .ok (.iastore, 1) := by decide +kernel
theorem d_RW_trim_10 : decode b_RW_trim 10 = .ok (.return_, 1) := by decide +kernel
set_option maxHeartbeats 4000000 in
set_option maxRecDepth 100000 in
theorem c_RW_trim (l : Launch) (D : va_G) (cI cL cZ : ClassId) (ad : Nat → Nat) (i : Nat) (x : Int32) (u : tm_SC) (hi : i < 241) : tm_V l y_RW_trim b_RW_trim 3 ({ frames := 0, cells := 0, slots := 0, locals := 0 } : Room) D (tm_yC cI cL cZ) (tm_wC ad cI cL cZ) [.ref (ad 11), .int (nI i), .int (x)] u (fun u' => u' = (cs_trim u i x)) := by
  intro sz
  refine tm_of (Qc := fun A => va_Qv (fun u' => u' = (cs_trim u i x)) (fun u' t => tm_B D (tm_yC cI cL cZ) A (tm_wC ad cI cL cZ u') t) A) (by decide) (Nat.le_of_ble_eq_true rfl) ?_ sz
  intro pg eg sg mg bel met cg A ls X h hl hnm
  have hx := X.1.1
  have hb := X.1.2.1
  have hl : lv_has ls 3 [(0, .ref (ad 11)), (1, .int (nI i)), (2, .int (x))] := hl
  refine lv_aload_n hx hb d_RW_trim_0 rfl (lv_at hl 0 rfl) ?_
  refine tm_get X h uw_RW 11 rfl rfl 0 (by decide) kw_78 rfl rfl d_RW_trim_1 ?_
  refine lv_iload_n hx hb d_RW_trim_4 rfl (lv_at hl 1 rfl) ?_
  refine lv_dup2_11 hx hb d_RW_trim_5 rfl rfl ?_
  refine tm_iald X h 12 0 rfl rfl (i) (by omega) (rfl) (by decide) d_RW_trim_6 ?_
  refine lv_iload_n hx hb d_RW_trim_7 rfl (lv_at hl 2 rfl) ?_
  refine lv_iand hx hb d_RW_trim_8 ?_
  refine tm_iast X h 12 0 rfl rfl (i) (by omega) (rfl) (by decide) (ws' := tm_wC ad cI cL cZ (tm_sa u 8 (i) ((((u).2.1 8 (i)) &&& x)))) rfl d_RW_trim_9 (fun H locs h => ?_)
  exact tm_vret (w := tm_wC ad cI cL cZ) (u := (tm_sa u 8 (i) ((((u).2.1 8 (i)) &&& x)))) X h (rfl) d_RW_trim_10
theorem d_RW_copy_0 : decode b_RW_copy 0 = .ok (.aload_n 0, 1) := by decide +kernel
theorem d_RW_copy_1 : decode b_RW_copy 1 = .ok (.getfield 11, 3) := by decide +kernel
theorem d_RW_copy_4 : decode b_RW_copy 4 = .ok (.iload_n 2, 1) := by decide +kernel
theorem d_RW_copy_5 : decode b_RW_copy 5 = .ok (.aload_n 0, 1) := by decide +kernel
theorem d_RW_copy_6 : decode b_RW_copy 6 = .ok (.getfield 11, 3) := by decide +kernel
theorem d_RW_copy_9 : decode b_RW_copy 9 = .ok (.iload_n 1, 1) := by decide +kernel
theorem d_RW_copy_10 : decode b_RW_copy 10 = .ok (.iaload, 1) := by decide +kernel
theorem d_RW_copy_11 : decode b_RW_copy 11 = .ok (.iastore, 1) := by decide +kernel
theorem d_RW_copy_12 : decode b_RW_copy 12 = .ok (.aload_n 0, 1) := by decide +kernel
theorem d_RW_copy_13 : decode b_RW_copy 13 = .ok (.getfield 15, 3) := by decide +kernel
theorem d_RW_copy_16 : decode b_RW_copy 16 = .ok (.iload_n 1, 1) := by decide +kernel
theorem d_RW_copy_17 : decode b_RW_copy 17 = .ok (.bipush 8, 2) := by decide +kernel
theorem d_RW_copy_19 : decode b_RW_copy 19 = .ok (.imul, 1) := by decide +kernel
theorem d_RW_copy_20 : decode b_RW_copy 20 = .ok (.aload_n 0, 1) := by decide +kernel
theorem d_RW_copy_21 : decode b_RW_copy 21 = .ok (.getfield 15, 3) := by decide +kernel
theorem d_RW_copy_24 : decode b_RW_copy 24 = .ok (.iload_n 2, 1) := by decide +kernel
theorem d_RW_copy_25 : decode b_RW_copy 25 = .ok (.bipush 8, 2) := by decide +kernel
theorem d_RW_copy_27 : decode b_RW_copy 27 = .ok (.imul, 1) := by decide +kernel
theorem d_RW_copy_28 : decode b_RW_copy 28 = .ok (.bipush 8, 2) := by decide +kernel
theorem d_RW_copy_30 : decode b_RW_copy 30 = .ok (.invokestatic 27, 3) := by decide +kernel
theorem d_RW_copy_33 : decode b_RW_copy 33 = .ok (.return_, 1) := by decide +kernel
set_option maxHeartbeats 4000000 in
set_option maxRecDepth 100000 in
theorem c_RW_copy (l : Launch) (D : va_G) (cI cL cZ : ClassId) (ad : Nat → Nat) (i : Nat) (j : Nat) (u : tm_SC) (hi : i < 241) (hj : j < 241) : tm_V l y_RW_copy b_RW_copy 3 ({ frames := 1, cells := 0, slots := 0, locals := 60 } : Room) D (tm_yC cI cL cZ) (tm_wC ad cI cL cZ) [.ref (ad 11), .int (nI i), .int (nI j)] u (fun u' => u' = (cs_copy u i j)) := by
  intro sz
  refine tm_of (Qc := fun A => va_Qv (fun u' => u' = (cs_copy u i j)) (fun u' t => tm_B D (tm_yC cI cL cZ) A (tm_wC ad cI cL cZ u') t) A) (by decide) (Nat.le_of_ble_eq_true rfl) ?_ sz
  intro pg eg sg mg bel met cg A ls X h hl hnm
  have hx := X.1.1
  have hb := X.1.2.1
  have hl : lv_has ls 3 [(0, .ref (ad 11)), (1, .int (nI i)), (2, .int (nI j))] := hl
  refine lv_aload_n hx hb d_RW_copy_0 rfl (lv_at hl 0 rfl) ?_
  refine tm_get X h uw_RW 11 rfl rfl 0 (by decide) kw_78 rfl rfl d_RW_copy_1 ?_
  refine lv_iload_n hx hb d_RW_copy_4 rfl (lv_at hl 2 rfl) ?_
  refine lv_aload_n hx hb d_RW_copy_5 rfl (lv_at hl 0 rfl) ?_
  refine tm_get X h uw_RW 11 rfl rfl 0 (by decide) kw_78 rfl rfl d_RW_copy_6 ?_
  refine lv_iload_n hx hb d_RW_copy_9 rfl (lv_at hl 1 rfl) ?_
  refine tm_iald X h 12 0 rfl rfl (i) (by omega) (rfl) (by decide) d_RW_copy_10 ?_
  refine tm_iast X h 12 0 rfl rfl (j) (by omega) (rfl) (by decide) (ws' := tm_wC ad cI cL cZ (tm_sa u 8 (j) (((u).2.1 8 (i))))) rfl d_RW_copy_11 (fun H locs h => ?_)
  refine lv_aload_n hx hb d_RW_copy_12 rfl (lv_at hl 0 rfl) ?_
  refine tm_get X h uw_RW 11 rfl rfl 1 (by decide) kw_80 rfl rfl d_RW_copy_13 ?_
  refine lv_iload_n hx hb d_RW_copy_16 rfl (lv_at hl 1 rfl) ?_
  refine lv_bipush (v := 8) hx hb d_RW_copy_17 (by decide) ?_
  refine lv_imul hx hb d_RW_copy_19 ?_
  refine lv_aload_n hx hb d_RW_copy_20 rfl (lv_at hl 0 rfl) ?_
  refine tm_get X h uw_RW 11 rfl rfl 1 (by decide) kw_80 rfl rfl d_RW_copy_21 ?_
  refine lv_iload_n hx hb d_RW_copy_24 rfl (lv_at hl 2 rfl) ?_
  refine lv_bipush (v := 8) hx hb d_RW_copy_25 (by decide) ?_
  refine lv_imul hx hb d_RW_copy_27 ?_
  refine lv_bipush (v := 8) hx hb d_RW_copy_28 (by decide) ?_
  refine tm_copyl X h kw_470 kw_472 kw_471 kw_16 hl.1 13 1 rfl rfl (i * 8) (j * 8) 8 (tm_ix80 i) (tm_ix80 j) (by decide) (by omega) (by omega) (by decide) (by decide) (ws' := tm_wC ad cI cL cZ (cs_copy u i j)) rfl d_RW_copy_30 (fun H locs h => ?_)
  exact tm_vret (w := tm_wC ad cI cL cZ) (u := (cs_copy u i j)) X h (rfl) d_RW_copy_33
theorem d_RW_copyTrimmed_0 : decode b_RW_copyTrimmed 0 = .ok (.aload_n 0, 1) := by decide +kernel
theorem d_RW_copyTrimmed_1 : decode b_RW_copyTrimmed 1 = .ok (.iload_n 1, 1) := by decide +kernel
theorem d_RW_copyTrimmed_2 : decode b_RW_copyTrimmed 2 = .ok (.iload_n 2, 1) := by decide +kernel
theorem d_RW_copyTrimmed_3 : decode b_RW_copyTrimmed 3 = .ok (.invokevirtual 33, 3) := by decide +kernel
theorem d_RW_copyTrimmed_6 : decode b_RW_copyTrimmed 6 = .ok (.aload_n 0, 1) := by decide +kernel
theorem d_RW_copyTrimmed_7 : decode b_RW_copyTrimmed 7 = .ok (.iload_n 2, 1) := by decide +kernel
theorem d_RW_copyTrimmed_8 : decode b_RW_copyTrimmed 8 = .ok (.iload_n 3, 1) := by decide +kernel
theorem d_RW_copyTrimmed_9 : decode b_RW_copyTrimmed 9 = .ok (.invokevirtual 37, 3) := by decide +kernel
theorem d_RW_copyTrimmed_12 : decode b_RW_copyTrimmed 12 = .ok (.return_, 1) := by decide +kernel
set_option maxHeartbeats 4000000 in
set_option maxRecDepth 100000 in
theorem c_RW_copyTrimmed (l : Launch) (D : va_G) (cI cL cZ : ClassId) (ad : Nat → Nat) (i : Nat) (j : Nat) (x : Int32) (u : tm_SC) (hi : i < 241) (hj : j < 241) : tm_V l y_RW_copyTrimmed b_RW_copyTrimmed 4 ({ frames := 2, cells := 0, slots := 0, locals := 82 } : Room) D (tm_yC cI cL cZ) (tm_wC ad cI cL cZ) [.ref (ad 11), .int (nI i), .int (nI j), .int (x)] u (fun u' => u' = (cs_copyT u i j x)) := by
  intro sz
  refine tm_of (Qc := fun A => va_Qv (fun u' => u' = (cs_copyT u i j x)) (fun u' t => tm_B D (tm_yC cI cL cZ) A (tm_wC ad cI cL cZ u') t) A) (by decide) (Nat.le_of_ble_eq_true rfl) ?_ sz
  intro pg eg sg mg bel met cg A ls X h hl hnm
  have hx := X.1.1
  have hb := X.1.2.1
  have hl : lv_has ls 4 [(0, .ref (ad 11)), (1, .int (nI i)), (2, .int (nI j)), (3, .int (x))] := hl
  refine lv_aload_n hx hb d_RW_copyTrimmed_0 rfl (lv_at hl 0 rfl) ?_
  refine lv_iload_n hx hb d_RW_copyTrimmed_1 rfl (lv_at hl 1 rfl) ?_
  refine lv_iload_n hx hb d_RW_copyTrimmed_2 rfl (lv_at hl 2 rfl) ?_
  refine tm_cVf X h (tm_rV (q0 := 11) X h (c_RW_copy l D cI cL cZ ad (i) (j) u (by omega) (by omega) _) ki_RW_copy kw_466 rfl rfl rfl rfl rfl ⟨by decide, by decide⟩ rfl hl.1 rfl (Nat.le_of_ble_eq_true rfl) d_RW_copyTrimmed_3 ⟨by decide, by decide⟩) (fun H locs h => ?_)
  refine lv_aload_n hx hb d_RW_copyTrimmed_6 rfl (lv_at hl 0 rfl) ?_
  refine lv_iload_n hx hb d_RW_copyTrimmed_7 rfl (lv_at hl 2 rfl) ?_
  refine lv_iload_n hx hb d_RW_copyTrimmed_8 rfl (lv_at hl 3 rfl) ?_
  refine tm_cVf X h (tm_rV (q0 := 11) X h (c_RW_trim l D cI cL cZ ad (j) (x) (cs_copy u (i) (j)) (by omega) _) ki_RW_trim kw_473 rfl rfl rfl rfl rfl ⟨by decide, by decide⟩ rfl hl.1 rfl (Nat.le_of_ble_eq_true rfl) d_RW_copyTrimmed_9 ⟨by decide, by decide⟩) (fun H locs h => ?_)
  exact tm_vret (w := tm_wC ad cI cL cZ) (u := (cs_trim (cs_copy u (i) (j)) (j) (x))) X h (rfl) d_RW_copyTrimmed_12
