theorem kw_15 : (Jvm.Cond.initialized "java/util/NoSuchElementException") ∈ tm_wa := tm_tb (List.mem_append_left _ (List.mem_of_getElem? (i := 15) (by decide +kernel))) rfl
theorem kw_17 : (Jvm.Cond.initialized "java/lang/UnsupportedOperationException") ∈ tm_wa := tm_tb (List.mem_append_left _ (List.mem_of_getElem? (i := 17) (by decide +kernel))) rfl
theorem kw_33 : (Jvm.Cond.fieldLinkNest "TrimmedMachine$Run" (91 : Nat) "TrimmedMachine$Expressions" "kinds" "[I" "TrimmedMachine") ∈ tm_nw := tm_nin (List.mem_append_left _ (List.mem_of_getElem? (i := 33) (by decide +kernel))) rfl
theorem kw_36 : (Jvm.Cond.fieldLinkNest "TrimmedMachine$Run" (96 : Nat) "TrimmedMachine$Expressions" "firsts" "[I" "TrimmedMachine") ∈ tm_nw := tm_nin (List.mem_append_left _ (List.mem_of_getElem? (i := 36) (by decide +kernel))) rfl
theorem kw_42 : (Jvm.Cond.fieldLinkNest "TrimmedMachine$Run" (120 : Nat) "TrimmedMachine$Expressions" "thirds" "[I" "TrimmedMachine") ∈ tm_nw := tm_nin (List.mem_append_left _ (List.mem_of_getElem? (i := 42) (by decide +kernel))) rfl
theorem kw_417 : (Jvm.Cond.instanceMethod ({ cls := "TrimmedMachine$Run", name := "evaluate", desc := "()V" } : Jvm.MethodName)) ∈ tm_wa := tm_tb (List.mem_append_right _ (List.mem_append_left _ (List.mem_of_getElem? (i := 177) (by decide +kernel)))) rfl
theorem kw_418 : (Jvm.Cond.code ({ cls := "TrimmedMachine$Run", name := "evaluate", desc := "()V" } : Jvm.MethodName) prog_5_method_4_code (2 : Nat) (Option.none : Option Jvm.ClassFile.FieldType)) ∈ tm_wa := tm_tb (List.mem_append_right _ (List.mem_append_left _ (List.mem_of_getElem? (i := 178) (rfl)))) rfl
theorem kw_419 : (Jvm.Cond.methodLink "TrimmedMachine$Run" (99 : Nat) ({ cls := "TrimmedMachine$Run", name := "returnValue", desc := "(J)V" } : Jvm.MethodName)) ∈ tm_wa := tm_tb (List.mem_append_right _ (List.mem_append_left _ (List.mem_of_getElem? (i := 179) (by decide +kernel)))) rfl
theorem kw_431 : (Jvm.Cond.methodLink "TrimmedMachine$Run" (103 : Nat) ({ cls := "TrimmedMachine$Run", name := "evaluateVariable", desc := "(I)V" } : Jvm.MethodName)) ∈ tm_wa := tm_tb (List.mem_append_right _ (List.mem_append_left _ (List.mem_of_getElem? (i := 191) (by decide +kernel)))) rfl
theorem kw_433 : (Jvm.Cond.instanceMethod ({ cls := "TrimmedMachine$Run", name := "evaluateVariable", desc := "(I)V" } : Jvm.MethodName)) ∈ tm_wa := tm_tb (List.mem_append_right _ (List.mem_append_left _ (List.mem_of_getElem? (i := 193) (by decide +kernel)))) rfl
theorem kw_434 : (Jvm.Cond.code ({ cls := "TrimmedMachine$Run", name := "evaluateVariable", desc := "(I)V" } : Jvm.MethodName) prog_5_method_5_code (2 : Nat) (Option.none : Option Jvm.ClassFile.FieldType)) ∈ tm_wa := tm_tb (List.mem_append_right _ (List.mem_append_left _ (List.mem_of_getElem? (i := 194) (rfl)))) rfl
theorem kw_435 : (Jvm.Cond.classLink "TrimmedMachine$Run" (127 : Nat) "java/util/NoSuchElementException") ∈ tm_wa := tm_tb (List.mem_append_right _ (List.mem_append_left _ (List.mem_of_getElem? (i := 195) (by decide +kernel)))) rfl
theorem kw_451 : (Jvm.Cond.methodLink "TrimmedMachine$Run" (106 : Nat) ({ cls := "TrimmedMachine$Run", name := "evaluateFunction", desc := "(I)V" } : Jvm.MethodName)) ∈ tm_wa := tm_tb (List.mem_append_right _ (List.mem_append_left _ (List.mem_of_getElem? (i := 211) (by decide +kernel)))) rfl
theorem kw_453 : (Jvm.Cond.instanceMethod ({ cls := "TrimmedMachine$Run", name := "evaluateFunction", desc := "(I)V" } : Jvm.MethodName)) ∈ tm_wa := tm_tb (List.mem_append_right _ (List.mem_append_left _ (List.mem_of_getElem? (i := 213) (by decide +kernel)))) rfl
theorem kw_454 : (Jvm.Cond.code ({ cls := "TrimmedMachine$Run", name := "evaluateFunction", desc := "(I)V" } : Jvm.MethodName) prog_5_method_6_code (3 : Nat) (Option.none : Option Jvm.ClassFile.FieldType)) ∈ tm_wa := tm_tb (List.mem_append_right _ (List.mem_append_left _ (List.mem_of_getElem? (i := 214) (rfl)))) rfl
theorem kw_455 : (Jvm.Cond.methodLinkNest "TrimmedMachine$Run" (138 : Nat) ({ cls := "TrimmedMachine$Closures", name := "unusedSlot", desc := "()I" } : Jvm.MethodName) "TrimmedMachine") ∈ tm_nw := tm_nin (List.mem_append_right _ (List.mem_append_left _ (List.mem_of_getElem? (i := 215) (by decide +kernel)))) rfl
theorem kw_459 : (Jvm.Cond.classLink "TrimmedMachine$Run" (142 : Nat) "java/lang/IllegalStateException") ∈ tm_wa := tm_tb (List.mem_append_right _ (List.mem_append_left _ (List.mem_of_getElem? (i := 219) (by decide +kernel)))) rfl
theorem kw_462 : (Jvm.Cond.methodLinkNest "TrimmedMachine$Run" (153 : Nat) ({ cls := "TrimmedMachine$Rows", name := "copyTrimmed", desc := "(III)V" } : Jvm.MethodName) "TrimmedMachine") ∈ tm_nw := tm_nin (List.mem_append_right _ (List.mem_append_left _ (List.mem_of_getElem? (i := 222) (by decide +kernel)))) rfl
theorem kw_474 : (Jvm.Cond.methodLinkNest "TrimmedMachine$Run" (156 : Nat) ({ cls := "TrimmedMachine$Values", name := "ofClosure", desc := "(I)J" } : Jvm.MethodName) "TrimmedMachine") ∈ tm_nw := tm_nin (List.mem_append_right _ (List.mem_append_left _ (List.mem_of_getElem? (i := 234) (by decide +kernel)))) rfl
theorem kw_477 : (Jvm.Cond.methodLink "TrimmedMachine$Run" (116 : Nat) ({ cls := "TrimmedMachine$Run", name := "evaluateFirst", desc := "(III)V" } : Jvm.MethodName)) ∈ tm_wa := tm_tb (List.mem_append_right _ (List.mem_append_left _ (List.mem_of_getElem? (i := 237) (by decide +kernel)))) rfl
theorem kw_479 : (Jvm.Cond.instanceMethod ({ cls := "TrimmedMachine$Run", name := "evaluateFirst", desc := "(III)V" } : Jvm.MethodName)) ∈ tm_wa := tm_tb (List.mem_append_right _ (List.mem_append_left _ (List.mem_of_getElem? (i := 239) (by decide +kernel)))) rfl
theorem kw_480 : (Jvm.Cond.code ({ cls := "TrimmedMachine$Run", name := "evaluateFirst", desc := "(III)V" } : Jvm.MethodName) prog_5_method_7_code (4 : Nat) (Option.none : Option Jvm.ClassFile.FieldType)) ∈ tm_wa := tm_tb (List.mem_append_right _ (List.mem_append_right _ (List.mem_append_left _ (List.mem_of_getElem? (i := 0) (rfl))))) rfl
theorem kw_502 : (Jvm.Cond.instanceMethod ({ cls := "TrimmedMachine$Run", name := "needInt", desc := "(J)I" } : Jvm.MethodName)) ∈ tm_wa := tm_tb (List.mem_append_right _ (List.mem_append_right _ (List.mem_append_left _ (List.mem_of_getElem? (i := 22) (by decide +kernel))))) rfl
theorem kw_503 : (Jvm.Cond.code ({ cls := "TrimmedMachine$Run", name := "needInt", desc := "(J)I" } : Jvm.MethodName) prog_5_method_17_code (3 : Nat) (Option.some Jvm.ClassFile.FieldType.int)) ∈ tm_wa := tm_tb (List.mem_append_right _ (List.mem_append_right _ (List.mem_append_left _ (List.mem_of_getElem? (i := 23) (rfl))))) rfl
theorem kw_504 : (Jvm.Cond.classLink "TrimmedMachine$Run" (219 : Nat) "java/lang/UnsupportedOperationException") ∈ tm_wa := tm_tb (List.mem_append_right _ (List.mem_append_right _ (List.mem_append_left _ (List.mem_of_getElem? (i := 24) (by decide +kernel))))) rfl
theorem kw_533 : (Jvm.Cond.instanceMethod ({ cls := "TrimmedMachine$Run", name := "needClosure", desc := "(J)I" } : Jvm.MethodName)) ∈ tm_wa := tm_tb (List.mem_append_right _ (List.mem_append_right _ (List.mem_append_left _ (List.mem_of_getElem? (i := 53) (by decide +kernel))))) rfl
theorem kw_534 : (Jvm.Cond.code ({ cls := "TrimmedMachine$Run", name := "needClosure", desc := "(J)I" } : Jvm.MethodName) prog_5_method_18_code (3 : Nat) (Option.some Jvm.ClassFile.FieldType.int)) ∈ tm_wa := tm_tb (List.mem_append_right _ (List.mem_append_right _ (List.mem_append_left _ (List.mem_of_getElem? (i := 54) (rfl))))) rfl
theorem kw_543 : (Jvm.Cond.instanceMethod ({ cls := "TrimmedMachine$Run", name := "refuseTooMuchSpace", desc := "()V" } : Jvm.MethodName)) ∈ tm_wa := tm_tb (List.mem_append_right _ (List.mem_append_right _ (List.mem_append_left _ (List.mem_of_getElem? (i := 63) (by decide +kernel))))) rfl
theorem kw_544 : (Jvm.Cond.code ({ cls := "TrimmedMachine$Run", name := "refuseTooMuchSpace", desc := "()V" } : Jvm.MethodName) prog_5_method_22_code (1 : Nat) (Option.none : Option Jvm.ClassFile.FieldType)) ∈ tm_wa := tm_tb (List.mem_append_right _ (List.mem_append_right _ (List.mem_append_left _ (List.mem_of_getElem? (i := 64) (rfl))))) rfl
abbrev y_RN_needInt : MethodName := { cls := "TrimmedMachine$Run", name := "needInt", desc := "(J)I" }
abbrev b_RN_needInt : ByteArray := prog_5_method_17_code
theorem ki_RN_needInt : tm_ki y_RN_needInt b_RN_needInt 3 (some .int) 1 := ⟨⟨kw_3, kw_503, by decide, by decide, by decide +kernel⟩, kw_502, tm_sel (n := 15) (List.mem_append_right _ (List.mem_append_left _ (List.mem_of_getElem? (i := 14) rfl)))⟩
abbrev y_RN_needClosure : MethodName := { cls := "TrimmedMachine$Run", name := "needClosure", desc := "(J)I" }
abbrev b_RN_needClosure : ByteArray := prog_5_method_18_code
theorem ki_RN_needClosure : tm_ki y_RN_needClosure b_RN_needClosure 3 (some .int) 1 := ⟨⟨kw_3, kw_534, by decide, by decide, by decide +kernel⟩, kw_533, tm_sel (n := 15) (List.mem_append_right _ (List.mem_append_right _ (List.mem_append_left _ (List.mem_of_getElem? (i := 1) rfl))))⟩
abbrev y_RN_refuseTooMuchSpace : MethodName := { cls := "TrimmedMachine$Run", name := "refuseTooMuchSpace", desc := "()V" }
abbrev b_RN_refuseTooMuchSpace : ByteArray := prog_5_method_22_code
theorem ki_RN_refuseTooMuchSpace : tm_ki y_RN_refuseTooMuchSpace b_RN_refuseTooMuchSpace 1 none 0 := ⟨⟨kw_3, kw_544, by decide, by decide, by decide +kernel⟩, kw_543, tm_sel (n := 15) (List.mem_append_right _ (List.mem_append_right _ (List.mem_append_left _ (List.mem_of_getElem? (i := 3) rfl))))⟩
abbrev y_RN_evaluateVariable : MethodName := { cls := "TrimmedMachine$Run", name := "evaluateVariable", desc := "(I)V" }
abbrev b_RN_evaluateVariable : ByteArray := prog_5_method_5_code
theorem ki_RN_evaluateVariable : tm_ki y_RN_evaluateVariable b_RN_evaluateVariable 2 none 1 := ⟨⟨kw_3, kw_434, by decide, by decide, by decide +kernel⟩, kw_433, tm_sel (n := 15) (List.mem_append_right _ (List.mem_append_left _ (List.mem_of_getElem? (i := 4) rfl)))⟩
abbrev y_RN_evaluateFunction : MethodName := { cls := "TrimmedMachine$Run", name := "evaluateFunction", desc := "(I)V" }
abbrev b_RN_evaluateFunction : ByteArray := prog_5_method_6_code
theorem ki_RN_evaluateFunction : tm_ki y_RN_evaluateFunction b_RN_evaluateFunction 3 none 1 := ⟨⟨kw_3, kw_454, by decide, by decide, by decide +kernel⟩, kw_453, tm_sel (n := 15) (List.mem_append_right _ (List.mem_append_left _ (List.mem_of_getElem? (i := 5) rfl)))⟩
abbrev y_RN_evaluateFirst : MethodName := { cls := "TrimmedMachine$Run", name := "evaluateFirst", desc := "(III)V" }
abbrev b_RN_evaluateFirst : ByteArray := prog_5_method_7_code
theorem ki_RN_evaluateFirst : tm_ki y_RN_evaluateFirst b_RN_evaluateFirst 4 none 3 := ⟨⟨kw_3, kw_480, by decide, by decide, by decide +kernel⟩, kw_479, tm_sel (n := 15) (List.mem_append_right _ (List.mem_append_left _ (List.mem_of_getElem? (i := 9) rfl)))⟩
abbrev y_RN_evaluate : MethodName := { cls := "TrimmedMachine$Run", name := "evaluate", desc := "()V" }
abbrev b_RN_evaluate : ByteArray := prog_5_method_4_code
theorem ki_RN_evaluate : tm_ki y_RN_evaluate b_RN_evaluate 2 none 0 := ⟨⟨kw_3, kw_418, by decide, by decide, by decide +kernel⟩, kw_417, tm_sel (n := 15) (List.mem_append_right _ (List.mem_append_left _ (List.mem_of_getElem? (i := 0) rfl)))⟩
theorem ta_RN_223 : ∀ w ∈ vx_atS "TrimmedMachine$Run" 223 "java/lang/UnsupportedOperationException" tx_nm, w ∈ tm_wa ∨ w ∈ tm_nw := tx_at (by decide +kernel)
theorem ta_RN_146 : ∀ w ∈ vx_atS "TrimmedMachine$Run" 146 "java/lang/IllegalStateException" tx_nm, w ∈ tm_wa ∨ w ∈ tm_nw := tx_at (by decide +kernel)
theorem d_RN_needInt_0 : decode b_RN_needInt 0 = .ok (.lload_n 1, 1) := by decide +kernel
theorem d_RN_needInt_1 : decode b_RN_needInt 1 = .ok (.invokestatic 203, 3) := by decide +kernel
theorem d_RN_needInt_4 : decode b_RN_needInt 4 = .ok (.ifCond .eq 18, 3) := by decide +kernel
theorem d_RN_needInt_7 : decode b_RN_needInt 7 = .ok (.aload_n 0, 1) := by decide +kernel
theorem d_RN_needInt_8 : decode b_RN_needInt 8 = .ok (.iconst 3, 1) := by decide +kernel
theorem d_RN_needInt_9 : decode b_RN_needInt 9 = .ok (.putfield 32, 3) := by decide +kernel
theorem d_RN_needInt_12 : decode b_RN_needInt 12 = .ok (.new 219, 3) := by decide +kernel
theorem d_RN_needInt_15 : decode b_RN_needInt 15 = .ok (.dup, 1) := by decide +kernel
theorem d_RN_needInt_16 : decode b_RN_needInt 16 = .ok (.ldc 221, 2) := by decide +kernel
theorem d_RN_needInt_18 : decode b_RN_needInt 18 = .ok (.invokespecial 223, 3) := by decide +kernel
theorem d_RN_needInt_21 : decode b_RN_needInt 21 = .ok (.athrow, 1) := by decide +kernel
theorem d_RN_needInt_22 : decode b_RN_needInt 22 = .ok (.lload_n 1, 1) := by decide +kernel
theorem d_RN_needInt_23 : decode b_RN_needInt 23 = .ok (.l2i, 1) := by decide +kernel
theorem d_RN_needInt_24 : decode b_RN_needInt 24 = .ok (.ireturn, 1) := by decide +kernel
set_option maxHeartbeats 4000000 in
set_option maxRecDepth 100000 in
theorem c_RN_needInt (l : Launch) (D : va_G) (cI cL cZ : ClassId) (ad : Nat → Nat) (hst : l.stackTraces = false) (x : Int64) (u : tm_SC)  : tx_I l y_RN_needInt b_RN_needInt 3 .int ({ frames := 6, cells := 1, slots := 6, locals := 90 } : Room) D (tm_yC cI cL cZ) (tm_wC ad cI cL cZ) [.ref (ad 8), .long (x)] u (fun r u' => (r = (x.toInt32) ∧ u' = u) ∧ x < 4294967296) (fun E u' => E = "java/lang/UnsupportedOperationException" ∧ u' = tm_sf u 1 3 ∧ ¬ x < 4294967296) := by
  intro sz
  refine tx_of (Qc := fun A => va_Qi (fun r u' => (r = (x.toInt32) ∧ u' = u) ∧ x < 4294967296) (fun u' t => tm_B D (tm_yC cI cL cZ) A (tm_wC ad cI cL cZ u') t) A) (XC := fun A => tx_X D (tm_yC cI cL cZ) (tm_wC ad cI cL cZ) A (fun E u' => E = "java/lang/UnsupportedOperationException" ∧ u' = tm_sf u 1 3 ∧ ¬ x < 4294967296)) (by decide) (Nat.le_of_ble_eq_true rfl) ?_ sz
  intro pg eg sg mg bel met cg A ls X h hl hE htab
  have hx := X.1.1
  have hb := X.1.2.1
  have hl : lv_has ls 3 [(0, .ref (ad 8)), (1, .long (x))] := hl
  refine lv_lload_n hx hb d_RN_needInt_0 rfl (lv_at hl 1 rfl) ?_
  refine tm_cIf X h (tm_rSN X h (c_VA_standsForClosure l D cI cL cZ ad (x) u  _) ks_VA_standsForClosure kw_378 rfl rfl ⟨by decide, by decide⟩ rfl hl.1 rfl (Nat.le_of_ble_eq_true rfl) d_RN_needInt_1 ⟨by decide, by decide⟩) (fun H locs h => ?_)
  refine lv_if_eq hx hb d_RN_needInt_4 (tgt := 22) rfl (fun h4t => ?_) (fun h4f => ?_)
  · refine lv_lload_n hx hb d_RN_needInt_22 rfl (lv_at hl 1 rfl) ?_
    refine lv_l2i hx hb d_RN_needInt_23 rfl ?_
    exact tx_iret (w := tm_wC ad cI cL cZ) (u := u) X h (⟨⟨rfl, rfl⟩, tm_ite0.mp h4t⟩) d_RN_needInt_24
  · refine lv_aload_n hx hb d_RN_needInt_7 rfl (lv_at hl 0 rfl) ?_
    refine lv_iconst (v := 3) hx hb d_RN_needInt_8 (by decide) ?_
    refine tm_put X h uw_RN t_RN t_RN_ok n_RN 8 rfl rfl 6 (by decide) kw_119 rfl rfl (rfl) (rfl) (Nat.le_of_ble_eq_true rfl) (ws' := tm_wC ad cI cL cZ (tm_sf u 1 (3))) rfl d_RN_needInt_9 (fun H locs h => ?_)
    exact tx_throw (w := tm_wC ad cI cL cZ) (u := (tm_sf u 1 (3))) (cls := "java/lang/UnsupportedOperationException") (text := "a closure in place of an int") X htab hE hst h (by decide) kw_504 kw_17 (List.mem_of_getElem? (i := 10) rfl) ta_RN_223 (by decide +kernel) hl.1 d_RN_needInt_12 d_RN_needInt_15 d_RN_needInt_16 d_RN_needInt_18 d_RN_needInt_21 (by decide) (Nat.le_of_ble_eq_true rfl) (by decide) (by decide) (⟨rfl, rfl, fun q => h4f (tm_ite0.mpr q)⟩)
theorem d_RN_needClosure_0 : decode b_RN_needClosure 0 = .ok (.lload_n 1, 1) := by decide +kernel
theorem d_RN_needClosure_1 : decode b_RN_needClosure 1 = .ok (.invokestatic 203, 3) := by decide +kernel
theorem d_RN_needClosure_4 : decode b_RN_needClosure 4 = .ok (.ifCond .ne 18, 3) := by decide +kernel
theorem d_RN_needClosure_7 : decode b_RN_needClosure 7 = .ok (.aload_n 0, 1) := by decide +kernel
theorem d_RN_needClosure_8 : decode b_RN_needClosure 8 = .ok (.iconst 3, 1) := by decide +kernel
theorem d_RN_needClosure_9 : decode b_RN_needClosure 9 = .ok (.putfield 32, 3) := by decide +kernel
theorem d_RN_needClosure_12 : decode b_RN_needClosure 12 = .ok (.new 219, 3) := by decide +kernel
theorem d_RN_needClosure_15 : decode b_RN_needClosure 15 = .ok (.dup, 1) := by decide +kernel
theorem d_RN_needClosure_16 : decode b_RN_needClosure 16 = .ok (.ldc 224, 2) := by decide +kernel
theorem d_RN_needClosure_18 : decode b_RN_needClosure 18 = .ok (.invokespecial 223, 3) := by decide +kernel
theorem d_RN_needClosure_21 : decode b_RN_needClosure 21 = .ok (.athrow, 1) := by decide +kernel
theorem d_RN_needClosure_22 : decode b_RN_needClosure 22 = .ok (.lload_n 1, 1) := by decide +kernel
theorem d_RN_needClosure_23 : decode b_RN_needClosure 23 = .ok (.invokestatic 210, 3) := by decide +kernel
theorem d_RN_needClosure_26 : decode b_RN_needClosure 26 = .ok (.ireturn, 1) := by decide +kernel
set_option maxHeartbeats 4000000 in
set_option maxRecDepth 100000 in
theorem c_RN_needClosure (l : Launch) (D : va_G) (cI cL cZ : ClassId) (ad : Nat → Nat) (hst : l.stackTraces = false) (x : Int64) (u : tm_SC)  : tx_I l y_RN_needClosure b_RN_needClosure 3 .int ({ frames := 6, cells := 1, slots := 6, locals := 90 } : Room) D (tm_yC cI cL cZ) (tm_wC ad cI cL cZ) [.ref (ad 8), .long (x)] u (fun r u' => (r = ((x - 4294967296).toInt32) ∧ u' = u) ∧ ¬ x < 4294967296) (fun E u' => E = "java/lang/UnsupportedOperationException" ∧ u' = tm_sf u 1 3 ∧ x < 4294967296) := by
  intro sz
  refine tx_of (Qc := fun A => va_Qi (fun r u' => (r = ((x - 4294967296).toInt32) ∧ u' = u) ∧ ¬ x < 4294967296) (fun u' t => tm_B D (tm_yC cI cL cZ) A (tm_wC ad cI cL cZ u') t) A) (XC := fun A => tx_X D (tm_yC cI cL cZ) (tm_wC ad cI cL cZ) A (fun E u' => E = "java/lang/UnsupportedOperationException" ∧ u' = tm_sf u 1 3 ∧ x < 4294967296)) (by decide) (Nat.le_of_ble_eq_true rfl) ?_ sz
  intro pg eg sg mg bel met cg A ls X h hl hE htab
  have hx := X.1.1
  have hb := X.1.2.1
  have hl : lv_has ls 3 [(0, .ref (ad 8)), (1, .long (x))] := hl
  refine lv_lload_n hx hb d_RN_needClosure_0 rfl (lv_at hl 1 rfl) ?_
  refine tm_cIf X h (tm_rSN X h (c_VA_standsForClosure l D cI cL cZ ad (x) u  _) ks_VA_standsForClosure kw_378 rfl rfl ⟨by decide, by decide⟩ rfl hl.1 rfl (Nat.le_of_ble_eq_true rfl) d_RN_needClosure_1 ⟨by decide, by decide⟩) (fun H locs h => ?_)
  refine lv_if_ne hx hb d_RN_needClosure_4 (tgt := 22) rfl (fun h4t => ?_) (fun h4f => ?_)
  · refine lv_lload_n hx hb d_RN_needClosure_22 rfl (lv_at hl 1 rfl) ?_
    refine tm_cIf X h (tm_rSN X h (c_VA_slotOf l D cI cL cZ ad (x) u  _) ks_VA_slotOf kw_382 rfl rfl ⟨by decide, by decide⟩ rfl hl.1 rfl (Nat.le_of_ble_eq_true rfl) d_RN_needClosure_23 ⟨by decide, by decide⟩) (fun H locs h => ?_)
    exact tx_iret (w := tm_wC ad cI cL cZ) (u := u) X h (⟨⟨rfl, rfl⟩, fun q => h4t (tm_ite0.mpr q)⟩) d_RN_needClosure_26
  · refine lv_aload_n hx hb d_RN_needClosure_7 rfl (lv_at hl 0 rfl) ?_
    refine lv_iconst (v := 3) hx hb d_RN_needClosure_8 (by decide) ?_
    refine tm_put X h uw_RN t_RN t_RN_ok n_RN 8 rfl rfl 6 (by decide) kw_119 rfl rfl (rfl) (rfl) (Nat.le_of_ble_eq_true rfl) (ws' := tm_wC ad cI cL cZ (tm_sf u 1 (3))) rfl d_RN_needClosure_9 (fun H locs h => ?_)
    exact tx_throw (w := tm_wC ad cI cL cZ) (u := (tm_sf u 1 (3))) (cls := "java/lang/UnsupportedOperationException") (text := "an int in place of a closure") X htab hE hst h (by decide) kw_504 kw_17 (List.mem_of_getElem? (i := 11) rfl) ta_RN_223 (by decide +kernel) hl.1 d_RN_needClosure_12 d_RN_needClosure_15 d_RN_needClosure_16 d_RN_needClosure_18 d_RN_needClosure_21 (by decide) (Nat.le_of_ble_eq_true rfl) (by decide) (by decide) (⟨rfl, rfl, tm_ite0.mp h4f⟩)
theorem d_RN_refuseTooMuchSpace_0 : decode b_RN_refuseTooMuchSpace 0 = .ok (.aload_n 0, 1) := by decide +kernel
theorem d_RN_refuseTooMuchSpace_1 : decode b_RN_refuseTooMuchSpace 1 = .ok (.getfield 79, 3) := by decide +kernel
theorem d_RN_refuseTooMuchSpace_4 : decode b_RN_refuseTooMuchSpace 4 = .ok (.aload_n 0, 1) := by decide +kernel
theorem d_RN_refuseTooMuchSpace_5 : decode b_RN_refuseTooMuchSpace 5 = .ok (.getfield 40, 3) := by decide +kernel
theorem d_RN_refuseTooMuchSpace_8 : decode b_RN_refuseTooMuchSpace 8 = .ok (.if_icmp .le 18, 3) := by decide +kernel
theorem d_RN_refuseTooMuchSpace_11 : decode b_RN_refuseTooMuchSpace 11 = .ok (.aload_n 0, 1) := by decide +kernel
theorem d_RN_refuseTooMuchSpace_12 : decode b_RN_refuseTooMuchSpace 12 = .ok (.iconst 3, 1) := by decide +kernel
theorem d_RN_refuseTooMuchSpace_13 : decode b_RN_refuseTooMuchSpace 13 = .ok (.putfield 32, 3) := by decide +kernel
theorem d_RN_refuseTooMuchSpace_16 : decode b_RN_refuseTooMuchSpace 16 = .ok (.new 142, 3) := by decide +kernel
theorem d_RN_refuseTooMuchSpace_19 : decode b_RN_refuseTooMuchSpace 19 = .ok (.dup, 1) := by decide +kernel
theorem d_RN_refuseTooMuchSpace_20 : decode b_RN_refuseTooMuchSpace 20 = .ok (.ldc 249, 2) := by decide +kernel
theorem d_RN_refuseTooMuchSpace_22 : decode b_RN_refuseTooMuchSpace 22 = .ok (.invokespecial 146, 3) := by decide +kernel
theorem d_RN_refuseTooMuchSpace_25 : decode b_RN_refuseTooMuchSpace 25 = .ok (.athrow, 1) := by decide +kernel
theorem d_RN_refuseTooMuchSpace_26 : decode b_RN_refuseTooMuchSpace 26 = .ok (.return_, 1) := by decide +kernel
set_option maxHeartbeats 4000000 in
set_option maxRecDepth 100000 in
theorem c_RN_refuseTooMuchSpace (l : Launch) (D : va_G) (cI cL cZ : ClassId) (ad : Nat → Nat) (hst : l.stackTraces = false)  (u : tm_SC)  : tx_V l y_RN_refuseTooMuchSpace b_RN_refuseTooMuchSpace 1 ({ frames := 6, cells := 1, slots := 6, locals := 90 } : Room) D (tm_yC cI cL cZ) (tm_wC ad cI cL cZ) [.ref (ad 8)] u (fun u' => u' = u ∧ ¬ u.1 2 < u.1 4) (fun E u' => E = "java/lang/IllegalStateException" ∧ u' = tm_sf u 1 3 ∧ u.1 2 < u.1 4) := by
  intro sz
  refine tx_of (Qc := fun A => va_Qv (fun u' => u' = u ∧ ¬ u.1 2 < u.1 4) (fun u' t => tm_B D (tm_yC cI cL cZ) A (tm_wC ad cI cL cZ u') t) A) (XC := fun A => tx_X D (tm_yC cI cL cZ) (tm_wC ad cI cL cZ) A (fun E u' => E = "java/lang/IllegalStateException" ∧ u' = tm_sf u 1 3 ∧ u.1 2 < u.1 4)) (by decide) (Nat.le_of_ble_eq_true rfl) ?_ sz
  intro pg eg sg mg bel met cg A ls X h hl hE htab
  have hx := X.1.1
  have hb := X.1.2.1
  have hl : lv_has ls 1 [(0, .ref (ad 8))] := hl
  refine lv_aload_n hx hb d_RN_refuseTooMuchSpace_0 rfl (lv_at hl 0 rfl) ?_
  refine tm_get X h uw_RN 8 rfl rfl 9 (by decide) kw_124 rfl rfl d_RN_refuseTooMuchSpace_1 ?_
  refine lv_aload_n hx hb d_RN_refuseTooMuchSpace_4 rfl (lv_at hl 0 rfl) ?_
  refine tm_get X h uw_RN 8 rfl rfl 7 (by decide) kw_121 rfl rfl d_RN_refuseTooMuchSpace_5 ?_
  refine lv_icmp_le hx hb d_RN_refuseTooMuchSpace_8 (tgt := 26) rfl (fun h8t => ?_) (fun h8f => ?_)
  · exact tx_vret (w := tm_wC ad cI cL cZ) (u := u) X h (⟨rfl, Int32.not_lt.mpr h8t⟩) d_RN_refuseTooMuchSpace_26
  · refine lv_aload_n hx hb d_RN_refuseTooMuchSpace_11 rfl (lv_at hl 0 rfl) ?_
    refine lv_iconst (v := 3) hx hb d_RN_refuseTooMuchSpace_12 (by decide) ?_
    refine tm_put X h uw_RN t_RN t_RN_ok n_RN 8 rfl rfl 6 (by decide) kw_119 rfl rfl (rfl) (rfl) (Nat.le_of_ble_eq_true rfl) (ws' := tm_wC ad cI cL cZ (tm_sf u 1 (3))) rfl d_RN_refuseTooMuchSpace_13 (fun H locs h => ?_)
    exact tx_throw (w := tm_wC ad cI cL cZ) (u := (tm_sf u 1 (3))) (cls := "java/lang/IllegalStateException") (text := "more space than the capacity") X htab hE hst h (by decide) kw_459 kw_10 (List.mem_of_getElem? (i := 12) rfl) ta_RN_146 (by decide +kernel) hl.1 d_RN_refuseTooMuchSpace_16 d_RN_refuseTooMuchSpace_19 d_RN_refuseTooMuchSpace_20 d_RN_refuseTooMuchSpace_22 d_RN_refuseTooMuchSpace_25 (by decide) (Nat.le_of_ble_eq_true rfl) (by decide) (by decide) (⟨rfl, rfl, Int32.not_le.mp h8f⟩)
theorem d_RN_evaluateVariable_0 : decode b_RN_evaluateVariable 0 = .ok (.aload_n 0, 1) := by decide +kernel
theorem d_RN_evaluateVariable_1 : decode b_RN_evaluateVariable 1 = .ok (.getfield 12, 3) := by decide +kernel
theorem d_RN_evaluateVariable_4 : decode b_RN_evaluateVariable 4 = .ok (.iconst 0, 1) := by decide +kernel
theorem d_RN_evaluateVariable_5 : decode b_RN_evaluateVariable 5 = .ok (.iload_n 1, 1) := by decide +kernel
theorem d_RN_evaluateVariable_6 : decode b_RN_evaluateVariable 6 = .ok (.invokevirtual 123, 3) := by decide +kernel
theorem d_RN_evaluateVariable_9 : decode b_RN_evaluateVariable 9 = .ok (.ifCond .ne 18, 3) := by decide +kernel
theorem d_RN_evaluateVariable_12 : decode b_RN_evaluateVariable 12 = .ok (.aload_n 0, 1) := by decide +kernel
theorem d_RN_evaluateVariable_13 : decode b_RN_evaluateVariable 13 = .ok (.iconst 3, 1) := by decide +kernel
theorem d_RN_evaluateVariable_14 : decode b_RN_evaluateVariable 14 = .ok (.putfield 32, 3) := by decide +kernel
theorem d_RN_evaluateVariable_17 : decode b_RN_evaluateVariable 17 = .ok (.new 127, 3) := by decide +kernel
theorem d_RN_evaluateVariable_20 : decode b_RN_evaluateVariable 20 = .ok (.dup, 1) := by decide +kernel
theorem d_RN_evaluateVariable_21 : decode b_RN_evaluateVariable 21 = .ok (.ldc 129, 2) := by decide +kernel
theorem d_RN_evaluateVariable_23 : decode b_RN_evaluateVariable 23 = .ok (.invokespecial 131, 3) := by decide +kernel
theorem d_RN_evaluateVariable_26 : decode b_RN_evaluateVariable 26 = .ok (.athrow, 1) := by decide +kernel
theorem d_RN_evaluateVariable_27 : decode b_RN_evaluateVariable 27 = .ok (.aload_n 0, 1) := by decide +kernel
theorem d_RN_evaluateVariable_28 : decode b_RN_evaluateVariable 28 = .ok (.aload_n 0, 1) := by decide +kernel
theorem d_RN_evaluateVariable_29 : decode b_RN_evaluateVariable 29 = .ok (.getfield 12, 3) := by decide +kernel
theorem d_RN_evaluateVariable_32 : decode b_RN_evaluateVariable 32 = .ok (.iconst 0, 1) := by decide +kernel
theorem d_RN_evaluateVariable_33 : decode b_RN_evaluateVariable 33 = .ok (.iload_n 1, 1) := by decide +kernel
theorem d_RN_evaluateVariable_34 : decode b_RN_evaluateVariable 34 = .ok (.invokevirtual 134, 3) := by decide +kernel
theorem d_RN_evaluateVariable_37 : decode b_RN_evaluateVariable 37 = .ok (.invokevirtual 99, 3) := by decide +kernel
theorem d_RN_evaluateVariable_40 : decode b_RN_evaluateVariable 40 = .ok (.return_, 1) := by decide +kernel
set_option maxHeartbeats 4000000 in
set_option maxRecDepth 100000 in
theorem c_RN_evaluateVariable (l : Launch) (D : va_G) (cI cL cZ : ClassId) (ad : Nat → Nat) (hst : l.stackTraces = false) (v : Nat) (u : tm_SC) (hv : v < 8) : tx_V l y_RN_evaluateVariable b_RN_evaluateVariable 2 ({ frames := 6, cells := 1, slots := 6, locals := 90 } : Room) D (tm_yC cI cL cZ) (tm_wC ad cI cL cZ) [.ref (ad 8), .int (nI v)] u (fun u' => u' = (cs_ret u (u.2.2 (0 * 8 + v))) ∧ ¬ cs_bt (u.2.1 8 0) (nI v) = 0) (fun E u' => E = "java/util/NoSuchElementException" ∧ u' = tm_sf u 1 3 ∧ cs_bt (u.2.1 8 0) (nI v) = 0) := by
  intro sz
  refine tx_of (Qc := fun A => va_Qv (fun u' => u' = (cs_ret u (u.2.2 (0 * 8 + v))) ∧ ¬ cs_bt (u.2.1 8 0) (nI v) = 0) (fun u' t => tm_B D (tm_yC cI cL cZ) A (tm_wC ad cI cL cZ u') t) A) (XC := fun A => tx_X D (tm_yC cI cL cZ) (tm_wC ad cI cL cZ) A (fun E u' => E = "java/util/NoSuchElementException" ∧ u' = tm_sf u 1 3 ∧ cs_bt (u.2.1 8 0) (nI v) = 0)) (by decide) (Nat.le_of_ble_eq_true rfl) ?_ sz
  intro pg eg sg mg bel met cg A ls X h hl hE htab
  have hx := X.1.1
  have hb := X.1.2.1
  have hl : lv_has ls 2 [(0, .ref (ad 8)), (1, .int (nI v))] := hl
  refine lv_aload_n hx hb d_RN_evaluateVariable_0 rfl (lv_at hl 0 rfl) ?_
  refine tm_get X h uw_RN 8 rfl rfl 1 (by decide) kw_112 rfl rfl d_RN_evaluateVariable_1 ?_
  refine lv_iconst (v := 0) hx hb d_RN_evaluateVariable_4 (by decide) ?_
  refine lv_iload_n hx hb d_RN_evaluateVariable_5 rfl (lv_at hl 1 rfl) ?_
  refine tm_cIf X h (tm_rVN (q0 := 11) X h (c_RW_gives l D cI cL cZ ad (0) (nI v) u (by decide) _) ki_RW_gives kw_370 rfl rfl rfl rfl rfl ⟨by decide, by decide⟩ rfl hl.1 rfl (Nat.le_of_ble_eq_true rfl) d_RN_evaluateVariable_6 ⟨by decide, by decide⟩) (fun H locs h => ?_)
  refine lv_if_ne hx hb d_RN_evaluateVariable_9 (tgt := 27) rfl (fun h9t => ?_) (fun h9f => ?_)
  · refine lv_aload_n hx hb d_RN_evaluateVariable_27 rfl (lv_at hl 0 rfl) ?_
    refine lv_aload_n hx hb d_RN_evaluateVariable_28 rfl (lv_at hl 0 rfl) ?_
    refine tm_get X h uw_RN 8 rfl rfl 1 (by decide) kw_112 rfl rfl d_RN_evaluateVariable_29 ?_
    refine lv_iconst (v := 0) hx hb d_RN_evaluateVariable_32 (by decide) ?_
    refine lv_iload_n hx hb d_RN_evaluateVariable_33 rfl (lv_at hl 1 rfl) ?_
    refine tm_cLf X h (tm_rVN (q0 := 11) X h (c_RW_get l D cI cL cZ ad (0) (v) u (by decide) (hv) _) ki_RW_get kw_374 rfl rfl rfl rfl rfl ⟨by decide, by decide⟩ rfl hl.1 rfl (Nat.le_of_ble_eq_true rfl) d_RN_evaluateVariable_34 ⟨by decide, by decide⟩) (fun H locs h => ?_)
    refine tm_cVf X h (tm_rV (q0 := 8) X h (c_RN_returnValue l D cI cL cZ ad ((u.2.2 ((0) * 8 + (v)))) u  _) ki_RN_returnValue kw_419 rfl rfl rfl rfl rfl ⟨by decide, by decide⟩ rfl hl.1 rfl (Nat.le_of_ble_eq_true rfl) d_RN_evaluateVariable_37 ⟨by decide, by decide⟩) (fun H locs h => ?_)
    exact tx_vret (w := tm_wC ad cI cL cZ) (u := (cs_ret u ((u.2.2 ((0) * 8 + (v)))))) X h (⟨rfl, fun q => h9t (tm_ite0.mpr q)⟩) d_RN_evaluateVariable_40
  · refine lv_aload_n hx hb d_RN_evaluateVariable_12 rfl (lv_at hl 0 rfl) ?_
    refine lv_iconst (v := 3) hx hb d_RN_evaluateVariable_13 (by decide) ?_
    refine tm_put X h uw_RN t_RN t_RN_ok n_RN 8 rfl rfl 6 (by decide) kw_119 rfl rfl (rfl) (rfl) (Nat.le_of_ble_eq_true rfl) (ws' := tm_wC ad cI cL cZ (tm_sf u 1 (3))) rfl d_RN_evaluateVariable_14 (fun H locs h => ?_)
    exact tn_throw (w := tm_wC ad cI cL cZ) (u := (tm_sf u 1 (3))) (cls := "java/util/NoSuchElementException") (text := "a variable without a value") (Y := "java/lang/RuntimeException") (names := ["java/lang/Exception"]) (ix := 13) (bs := tn_13) X htab hE hst h (by decide) (by decide) (by decide) tn_13_0 tn_13_1 tn_13_2 tn_13_5 kw_435 kw_15 (List.mem_of_getElem? (i := 7) rfl) tn_at (by decide +kernel) hl.1 d_RN_evaluateVariable_17 d_RN_evaluateVariable_20 d_RN_evaluateVariable_21 d_RN_evaluateVariable_23 d_RN_evaluateVariable_26 (by decide) (Nat.le_of_ble_eq_true rfl) (by decide) (by decide) (⟨rfl, rfl, tm_ite0.mp h9f⟩)
theorem d_RN_evaluateFunction_0 : decode b_RN_evaluateFunction 0 = .ok (.aload_n 0, 1) := by decide +kernel
theorem d_RN_evaluateFunction_1 : decode b_RN_evaluateFunction 1 = .ok (.getfield 21, 3) := by decide +kernel
theorem d_RN_evaluateFunction_4 : decode b_RN_evaluateFunction 4 = .ok (.invokevirtual 138, 3) := by decide +kernel
theorem d_RN_evaluateFunction_7 : decode b_RN_evaluateFunction 7 = .ok (.istore_n 2, 1) := by decide +kernel
theorem d_RN_evaluateFunction_8 : decode b_RN_evaluateFunction 8 = .ok (.iload_n 2, 1) := by decide +kernel
theorem d_RN_evaluateFunction_9 : decode b_RN_evaluateFunction 9 = .ok (.bipush 120, 2) := by decide +kernel
theorem d_RN_evaluateFunction_11 : decode b_RN_evaluateFunction 11 = .ok (.if_icmp .lt 18, 3) := by decide +kernel
theorem d_RN_evaluateFunction_14 : decode b_RN_evaluateFunction 14 = .ok (.aload_n 0, 1) := by decide +kernel
theorem d_RN_evaluateFunction_15 : decode b_RN_evaluateFunction 15 = .ok (.iconst 3, 1) := by decide +kernel
theorem d_RN_evaluateFunction_16 : decode b_RN_evaluateFunction 16 = .ok (.putfield 32, 3) := by decide +kernel
theorem d_RN_evaluateFunction_19 : decode b_RN_evaluateFunction 19 = .ok (.new 142, 3) := by decide +kernel
theorem d_RN_evaluateFunction_22 : decode b_RN_evaluateFunction 22 = .ok (.dup, 1) := by decide +kernel
theorem d_RN_evaluateFunction_23 : decode b_RN_evaluateFunction 23 = .ok (.ldc 144, 2) := by decide +kernel
theorem d_RN_evaluateFunction_25 : decode b_RN_evaluateFunction 25 = .ok (.invokespecial 146, 3) := by decide +kernel
theorem d_RN_evaluateFunction_28 : decode b_RN_evaluateFunction 28 = .ok (.athrow, 1) := by decide +kernel
theorem d_RN_evaluateFunction_29 : decode b_RN_evaluateFunction 29 = .ok (.aload_n 0, 1) := by decide +kernel
theorem d_RN_evaluateFunction_30 : decode b_RN_evaluateFunction 30 = .ok (.getfield 21, 3) := by decide +kernel
theorem d_RN_evaluateFunction_33 : decode b_RN_evaluateFunction 33 = .ok (.getfield 147, 3) := by decide +kernel
theorem d_RN_evaluateFunction_36 : decode b_RN_evaluateFunction 36 = .ok (.iload_n 2, 1) := by decide +kernel
theorem d_RN_evaluateFunction_37 : decode b_RN_evaluateFunction 37 = .ok (.iload_n 1, 1) := by decide +kernel
theorem d_RN_evaluateFunction_38 : decode b_RN_evaluateFunction 38 = .ok (.iastore, 1) := by decide +kernel
theorem d_RN_evaluateFunction_39 : decode b_RN_evaluateFunction 39 = .ok (.aload_n 0, 1) := by decide +kernel
theorem d_RN_evaluateFunction_40 : decode b_RN_evaluateFunction 40 = .ok (.getfield 12, 3) := by decide +kernel
theorem d_RN_evaluateFunction_43 : decode b_RN_evaluateFunction 43 = .ok (.iconst 0, 1) := by decide +kernel
theorem d_RN_evaluateFunction_44 : decode b_RN_evaluateFunction 44 = .ok (.iload_n 2, 1) := by decide +kernel
theorem d_RN_evaluateFunction_45 : decode b_RN_evaluateFunction 45 = .ok (.invokestatic 150, 3) := by decide +kernel
theorem d_RN_evaluateFunction_48 : decode b_RN_evaluateFunction 48 = .ok (.aload_n 0, 1) := by decide +kernel
theorem d_RN_evaluateFunction_49 : decode b_RN_evaluateFunction 49 = .ok (.iload_n 1, 1) := by decide +kernel
theorem d_RN_evaluateFunction_50 : decode b_RN_evaluateFunction 50 = .ok (.invokevirtual 112, 3) := by decide +kernel
theorem d_RN_evaluateFunction_53 : decode b_RN_evaluateFunction 53 = .ok (.invokevirtual 153, 3) := by decide +kernel
theorem d_RN_evaluateFunction_56 : decode b_RN_evaluateFunction 56 = .ok (.aload_n 0, 1) := by decide +kernel
theorem d_RN_evaluateFunction_57 : decode b_RN_evaluateFunction 57 = .ok (.iload_n 2, 1) := by decide +kernel
theorem d_RN_evaluateFunction_58 : decode b_RN_evaluateFunction 58 = .ok (.invokestatic 156, 3) := by decide +kernel
theorem d_RN_evaluateFunction_61 : decode b_RN_evaluateFunction 61 = .ok (.invokevirtual 99, 3) := by decide +kernel
theorem d_RN_evaluateFunction_64 : decode b_RN_evaluateFunction 64 = .ok (.return_, 1) := by decide +kernel
set_option maxHeartbeats 4000000 in
set_option maxRecDepth 100000 in
theorem c_RN_evaluateFunction (l : Launch) (D : va_G) (cI cL cZ : ClassId) (ad : Nat → Nat) (hst : l.stackTraces = false) (e : Nat) (u : tm_SC) (he : e < 100) : tx_V l y_RN_evaluateFunction b_RN_evaluateFunction 3 ({ frames := 6, cells := 1, slots := 6, locals := 105 } : Room) D (tm_yC cI cL cZ) (tm_wC ad cI cL cZ) [.ref (ad 8), .int (nI e)] u (fun u' => ∃ k, k < 120 ∧ u.2.1 10 k = 0 ∧ (∀ j, j < k → ¬ u.2.1 10 j = 0) ∧ u' = cs_clo u e k) (fun E u' => E = "java/lang/IllegalStateException" ∧ u' = tm_sf u 1 3 ∧ ∀ j, j < 120 → ¬ u.2.1 10 j = 0) := by
  intro sz
  refine tx_of (Qc := fun A => va_Qv (fun u' => ∃ k, k < 120 ∧ u.2.1 10 k = 0 ∧ (∀ j, j < k → ¬ u.2.1 10 j = 0) ∧ u' = cs_clo u e k) (fun u' t => tm_B D (tm_yC cI cL cZ) A (tm_wC ad cI cL cZ u') t) A) (XC := fun A => tx_X D (tm_yC cI cL cZ) (tm_wC ad cI cL cZ) A (fun E u' => E = "java/lang/IllegalStateException" ∧ u' = tm_sf u 1 3 ∧ ∀ j, j < 120 → ¬ u.2.1 10 j = 0)) (by decide) (Nat.le_of_ble_eq_true rfl) ?_ sz
  intro pg eg sg mg bel met cg A ls X h hl hE htab
  have hx := X.1.1
  have hb := X.1.2.1
  have hl : lv_has ls 3 [(0, .ref (ad 8)), (1, .int (nI e))] := hl
  refine lv_aload_n hx hb d_RN_evaluateFunction_0 rfl (lv_at hl 0 rfl) ?_
  refine tm_get X h uw_RN 8 rfl rfl 2 (by decide) kw_113 rfl rfl d_RN_evaluateFunction_1 ?_
  refine tm_cI X h (tm_rVN (q0 := 14) X h (c_CL_unusedSlot l D cI cL cZ ad  u  _) ki_CL_unusedSlot kw_455 rfl rfl rfl rfl rfl ⟨by decide, by decide⟩ rfl hl.1 rfl (Nat.le_of_ble_eq_true rfl) d_RN_evaluateFunction_4 ⟨by decide, by decide⟩) (fun r4 u4 H locs hp4 h => ?_)
  obtain ⟨e4, k, hk, er4, hj4, h04⟩ := hp4
  rw [e4] at h
  refine tm_top (y := nI k) (er4) ?_
  refine lv_istore_n hx hb d_RN_evaluateFunction_7 rfl hl (by decide) rfl (fun ls (hl : lv_has ls 3 [(2, .int (nI k)), (0, .ref (ad 8)), (1, .int (nI e))]) => ?_)
  refine lv_iload_n hx hb d_RN_evaluateFunction_8 rfl (lv_at hl 0 rfl) ?_
  refine lv_bipush (v := 120) hx hb d_RN_evaluateFunction_9 (by decide) ?_
  refine lv_icmp_lt hx hb d_RN_evaluateFunction_11 (tgt := 29) rfl (fun h11t => ?_) (fun h11f => ?_)
  · have k11 : k < 120 := (nI_ltI (b := 120) (by omega) (by decide)).mp h11t
    refine lv_aload_n hx hb d_RN_evaluateFunction_29 rfl (lv_at hl 1 rfl) ?_
    refine tm_get X h uw_RN 8 rfl rfl 2 (by decide) kw_113 rfl rfl d_RN_evaluateFunction_30 ?_
    refine tm_getN X h uw_CL 14 rfl rfl 0 (by decide) kw_94 rfl rfl d_RN_evaluateFunction_33 ?_
    refine lv_iload_n hx hb d_RN_evaluateFunction_36 rfl (lv_at hl 0 rfl) ?_
    refine lv_iload_n hx hb d_RN_evaluateFunction_37 rfl (lv_at hl 2 rfl) ?_
    refine tm_iast X h 15 0 rfl rfl (k) (k11) (rfl) (by decide) (ws' := tm_wC ad cI cL cZ (tm_sa u 9 (k) (nI e))) rfl d_RN_evaluateFunction_38 (fun H locs h => ?_)
    refine lv_aload_n hx hb d_RN_evaluateFunction_39 rfl (lv_at hl 1 rfl) ?_
    refine tm_get X h uw_RN 8 rfl rfl 1 (by decide) kw_112 rfl rfl d_RN_evaluateFunction_40 ?_
    refine lv_iconst (v := 0) hx hb d_RN_evaluateFunction_43 (by decide) ?_
    refine lv_iload_n hx hb d_RN_evaluateFunction_44 rfl (lv_at hl 0 rfl) ?_
    refine tm_cIf X h (tm_rSN X h (c_RW_ofClosure l D cI cL cZ ad (k) (tm_sa u 9 (k) (nI e))  _) ks_RW_ofClosure kw_398 rfl rfl ⟨by decide, by decide⟩ rfl hl.1 rfl (Nat.le_of_ble_eq_true rfl) d_RN_evaluateFunction_45 ⟨by decide, by decide⟩) (fun H locs h => ?_)
    refine lv_aload_n hx hb d_RN_evaluateFunction_48 rfl (lv_at hl 1 rfl) ?_
    refine lv_iload_n hx hb d_RN_evaluateFunction_49 rfl (lv_at hl 2 rfl) ?_
    refine tm_cIf X h (tm_rV (q0 := 8) X h (c_RN_freeIn l D cI cL cZ ad (e) (tm_sa u 9 (k) (nI e)) (he) _) ki_RN_freeIn kw_354 rfl rfl rfl rfl rfl ⟨by decide, by decide⟩ rfl hl.1 rfl (Nat.le_of_ble_eq_true rfl) d_RN_evaluateFunction_50 ⟨by decide, by decide⟩) (fun H locs h => ?_)
    refine tm_cVf X h (tm_rVN (q0 := 11) X h (c_RW_copyTrimmed l D cI cL cZ ad (0) (121 + k) (((tm_sa u 9 (k) (nI e)).2.1 4 (e))) (tm_sa u 9 (k) (nI e)) (by decide) (by omega) _) ki_RW_copyTrimmed kw_462 rfl rfl rfl rfl rfl ⟨by decide, by decide⟩ rfl hl.1 rfl (Nat.le_of_ble_eq_true rfl) d_RN_evaluateFunction_53 ⟨by decide, by decide⟩) (fun H locs h => ?_)
    refine lv_aload_n hx hb d_RN_evaluateFunction_56 rfl (lv_at hl 1 rfl) ?_
    refine lv_iload_n hx hb d_RN_evaluateFunction_57 rfl (lv_at hl 0 rfl) ?_
    refine tm_cLf X h (tm_rSN X h (c_VA_ofClosure l D cI cL cZ ad (nI k) (cs_copyT (tm_sa u 9 (k) (nI e)) (0) (121 + k) (((tm_sa u 9 (k) (nI e)).2.1 4 (e))))  _) ks_VA_ofClosure kw_474 rfl rfl ⟨by decide, by decide⟩ rfl hl.1 rfl (Nat.le_of_ble_eq_true rfl) d_RN_evaluateFunction_58 ⟨by decide, by decide⟩) (fun H locs h => ?_)
    refine tm_cVf X h (tm_rV (q0 := 8) X h (c_RN_returnValue l D cI cL cZ ad ((4294967296 + ((nI k)).toInt64)) (cs_copyT (tm_sa u 9 (k) (nI e)) (0) (121 + k) (((tm_sa u 9 (k) (nI e)).2.1 4 (e))))  _) ki_RN_returnValue kw_419 rfl rfl rfl rfl rfl ⟨by decide, by decide⟩ rfl hl.1 rfl (Nat.le_of_ble_eq_true rfl) d_RN_evaluateFunction_61 ⟨by decide, by decide⟩) (fun H locs h => ?_)
    exact tx_vret (w := tm_wC ad cI cL cZ) (u := (cs_ret (cs_copyT (tm_sa u 9 (k) (nI e)) (0) (121 + k) (((tm_sa u 9 (k) (nI e)).2.1 4 (e)))) ((4294967296 + ((nI k)).toInt64)))) X h (⟨k, k11, h04 k11, hj4, rfl⟩) d_RN_evaluateFunction_64
  · refine lv_aload_n hx hb d_RN_evaluateFunction_14 rfl (lv_at hl 1 rfl) ?_
    refine lv_iconst (v := 3) hx hb d_RN_evaluateFunction_15 (by decide) ?_
    refine tm_put X h uw_RN t_RN t_RN_ok n_RN 8 rfl rfl 6 (by decide) kw_119 rfl rfl (rfl) (rfl) (Nat.le_of_ble_eq_true rfl) (ws' := tm_wC ad cI cL cZ (tm_sf u 1 (3))) rfl d_RN_evaluateFunction_16 (fun H locs h => ?_)
    exact tx_throw (w := tm_wC ad cI cL cZ) (u := (tm_sf u 1 (3))) (cls := "java/lang/IllegalStateException") (text := "more closures than any capacity") X htab hE hst h (by decide) kw_459 kw_10 (List.mem_of_getElem? (i := 8) rfl) ta_RN_146 (by decide +kernel) hl.1 d_RN_evaluateFunction_19 d_RN_evaluateFunction_22 d_RN_evaluateFunction_23 d_RN_evaluateFunction_25 d_RN_evaluateFunction_28 (by decide) (Nat.le_of_ble_eq_true rfl) (by decide) (by decide) (⟨rfl, rfl, by have : ¬ k < 120 := fun q => h11f ((nI_ltI (b := 120) (by omega) (by decide)).mpr q); intro j hj; exact hj4 j (by omega)⟩)
theorem d_RN_evaluateFirst_0 : decode b_RN_evaluateFirst 0 = .ok (.aload_n 0, 1) := by decide +kernel
theorem d_RN_evaluateFirst_1 : decode b_RN_evaluateFirst 1 = .ok (.getfield 46, 3) := by decide +kernel
theorem d_RN_evaluateFirst_4 : decode b_RN_evaluateFirst 4 = .ok (.bipush 120, 2) := by decide +kernel
theorem d_RN_evaluateFirst_6 : decode b_RN_evaluateFirst 6 = .ok (.if_icmp .lt 18, 3) := by decide +kernel
theorem d_RN_evaluateFirst_9 : decode b_RN_evaluateFirst 9 = .ok (.aload_n 0, 1) := by decide +kernel
theorem d_RN_evaluateFirst_10 : decode b_RN_evaluateFirst 10 = .ok (.iconst 3, 1) := by decide +kernel
theorem d_RN_evaluateFirst_11 : decode b_RN_evaluateFirst 11 = .ok (.putfield 32, 3) := by decide +kernel
theorem d_RN_evaluateFirst_14 : decode b_RN_evaluateFirst 14 = .ok (.new 142, 3) := by decide +kernel
theorem d_RN_evaluateFirst_17 : decode b_RN_evaluateFirst 17 = .ok (.dup, 1) := by decide +kernel
theorem d_RN_evaluateFirst_18 : decode b_RN_evaluateFirst 18 = .ok (.ldc 161, 2) := by decide +kernel
theorem d_RN_evaluateFirst_20 : decode b_RN_evaluateFirst 20 = .ok (.invokespecial 146, 3) := by decide +kernel
theorem d_RN_evaluateFirst_23 : decode b_RN_evaluateFirst 23 = .ok (.athrow, 1) := by decide +kernel
theorem d_RN_evaluateFirst_24 : decode b_RN_evaluateFirst 24 = .ok (.aload_n 0, 1) := by decide +kernel
theorem d_RN_evaluateFirst_25 : decode b_RN_evaluateFirst 25 = .ok (.getfield 25, 3) := by decide +kernel
theorem d_RN_evaluateFirst_28 : decode b_RN_evaluateFirst 28 = .ok (.aload_n 0, 1) := by decide +kernel
theorem d_RN_evaluateFirst_29 : decode b_RN_evaluateFirst 29 = .ok (.getfield 46, 3) := by decide +kernel
theorem d_RN_evaluateFirst_32 : decode b_RN_evaluateFirst 32 = .ok (.iload_n 2, 1) := by decide +kernel
theorem d_RN_evaluateFirst_33 : decode b_RN_evaluateFirst 33 = .ok (.iastore, 1) := by decide +kernel
theorem d_RN_evaluateFirst_34 : decode b_RN_evaluateFirst 34 = .ok (.aload_n 0, 1) := by decide +kernel
theorem d_RN_evaluateFirst_35 : decode b_RN_evaluateFirst 35 = .ok (.getfield 29, 3) := by decide +kernel
theorem d_RN_evaluateFirst_38 : decode b_RN_evaluateFirst 38 = .ok (.aload_n 0, 1) := by decide +kernel
theorem d_RN_evaluateFirst_39 : decode b_RN_evaluateFirst 39 = .ok (.getfield 46, 3) := by decide +kernel
theorem d_RN_evaluateFirst_42 : decode b_RN_evaluateFirst 42 = .ok (.iload_n 1, 1) := by decide +kernel
theorem d_RN_evaluateFirst_43 : decode b_RN_evaluateFirst 43 = .ok (.iastore, 1) := by decide +kernel
theorem d_RN_evaluateFirst_44 : decode b_RN_evaluateFirst 44 = .ok (.aload_n 0, 1) := by decide +kernel
theorem d_RN_evaluateFirst_45 : decode b_RN_evaluateFirst 45 = .ok (.getfield 12, 3) := by decide +kernel
theorem d_RN_evaluateFirst_48 : decode b_RN_evaluateFirst 48 = .ok (.iconst 0, 1) := by decide +kernel
theorem d_RN_evaluateFirst_49 : decode b_RN_evaluateFirst 49 = .ok (.aload_n 0, 1) := by decide +kernel
theorem d_RN_evaluateFirst_50 : decode b_RN_evaluateFirst 50 = .ok (.getfield 46, 3) := by decide +kernel
theorem d_RN_evaluateFirst_53 : decode b_RN_evaluateFirst 53 = .ok (.invokestatic 163, 3) := by decide +kernel
theorem d_RN_evaluateFirst_56 : decode b_RN_evaluateFirst 56 = .ok (.iload_n 3, 1) := by decide +kernel
theorem d_RN_evaluateFirst_57 : decode b_RN_evaluateFirst 57 = .ok (.invokevirtual 153, 3) := by decide +kernel
theorem d_RN_evaluateFirst_60 : decode b_RN_evaluateFirst 60 = .ok (.aload_n 0, 1) := by decide +kernel
theorem d_RN_evaluateFirst_61 : decode b_RN_evaluateFirst 61 = .ok (.dup, 1) := by decide +kernel
theorem d_RN_evaluateFirst_62 : decode b_RN_evaluateFirst 62 = .ok (.getfield 46, 3) := by decide +kernel
theorem d_RN_evaluateFirst_65 : decode b_RN_evaluateFirst 65 = .ok (.iconst 1, 1) := by decide +kernel
theorem d_RN_evaluateFirst_66 : decode b_RN_evaluateFirst 66 = .ok (.iadd, 1) := by decide +kernel
theorem d_RN_evaluateFirst_67 : decode b_RN_evaluateFirst 67 = .ok (.putfield 46, 3) := by decide +kernel
theorem d_RN_evaluateFirst_70 : decode b_RN_evaluateFirst 70 = .ok (.aload_n 0, 1) := by decide +kernel
theorem d_RN_evaluateFirst_71 : decode b_RN_evaluateFirst 71 = .ok (.aload_n 0, 1) := by decide +kernel
theorem d_RN_evaluateFirst_72 : decode b_RN_evaluateFirst 72 = .ok (.getfield 36, 3) := by decide +kernel
theorem d_RN_evaluateFirst_75 : decode b_RN_evaluateFirst 75 = .ok (.getfield 96, 3) := by decide +kernel
theorem d_RN_evaluateFirst_78 : decode b_RN_evaluateFirst 78 = .ok (.iload_n 1, 1) := by decide +kernel
theorem d_RN_evaluateFirst_79 : decode b_RN_evaluateFirst 79 = .ok (.iaload, 1) := by decide +kernel
theorem d_RN_evaluateFirst_80 : decode b_RN_evaluateFirst 80 = .ok (.invokevirtual 56, 3) := by decide +kernel
theorem d_RN_evaluateFirst_83 : decode b_RN_evaluateFirst 83 = .ok (.return_, 1) := by decide +kernel
set_option maxHeartbeats 4000000 in
set_option maxRecDepth 100000 in
theorem c_RN_evaluateFirst (l : Launch) (D : va_G) (cI cL cZ : ClassId) (ad : Nat → Nat) (hst : l.stackTraces = false) (F : Nat) (e : Nat) (a : Nat) (k : Int32) (m : Int32) (u : tm_SC) (hF : u.1 0 = nI F) (hF2 : F ≤ 120) (he : e < 100) (ha : a < 100) (h1 : u.2.1 1 e = nI a) : tx_V l y_RN_evaluateFirst b_RN_evaluateFirst 4 ({ frames := 6, cells := 1, slots := 6, locals := 105 } : Room) D (tm_yC cI cL cZ) (tm_wC ad cI cL cZ) [.ref (ad 8), .int (nI e), .int (k), .int (m)] u (fun u' => u' = (cs_fst u F e a k m) ∧ F < 120) (fun E u' => E = "java/lang/IllegalStateException" ∧ u' = tm_sf u 1 3 ∧ F = 120) := by
  intro sz
  refine tx_of (Qc := fun A => va_Qv (fun u' => u' = (cs_fst u F e a k m) ∧ F < 120) (fun u' t => tm_B D (tm_yC cI cL cZ) A (tm_wC ad cI cL cZ u') t) A) (XC := fun A => tx_X D (tm_yC cI cL cZ) (tm_wC ad cI cL cZ) A (fun E u' => E = "java/lang/IllegalStateException" ∧ u' = tm_sf u 1 3 ∧ F = 120)) (by decide) (Nat.le_of_ble_eq_true rfl) ?_ sz
  intro pg eg sg mg bel met cg A ls X h hl hE htab
  have hx := X.1.1
  have hb := X.1.2.1
  have hl : lv_has ls 4 [(0, .ref (ad 8)), (1, .int (nI e)), (2, .int (k)), (3, .int (m))] := hl
  refine lv_aload_n hx hb d_RN_evaluateFirst_0 rfl (lv_at hl 0 rfl) ?_
  refine tm_get X h uw_RN 8 rfl rfl 5 (by decide) kw_117 rfl rfl d_RN_evaluateFirst_1 ?_
  refine tm_top (y := nI F) (hF) ?_
  refine lv_bipush (v := 120) hx hb d_RN_evaluateFirst_4 (by decide) ?_
  refine lv_icmp_lt hx hb d_RN_evaluateFirst_6 (tgt := 24) rfl (fun h6t => ?_) (fun h6f => ?_)
  · have hF3 : F < 120 := (nI_ltI (b := 120) (by omega) (by decide)).mp h6t
    refine lv_aload_n hx hb d_RN_evaluateFirst_24 rfl (lv_at hl 0 rfl) ?_
    refine tm_get X h uw_RN 8 rfl rfl 3 (by decide) kw_115 rfl rfl d_RN_evaluateFirst_25 ?_
    refine lv_aload_n hx hb d_RN_evaluateFirst_28 rfl (lv_at hl 0 rfl) ?_
    refine tm_get X h uw_RN 8 rfl rfl 5 (by decide) kw_117 rfl rfl d_RN_evaluateFirst_29 ?_
    refine lv_iload_n hx hb d_RN_evaluateFirst_32 rfl (lv_at hl 2 rfl) ?_
    refine tm_iast X h 9 0 rfl rfl (F) (hF3) (hF) (by decide) (ws' := tm_wC ad cI cL cZ (tm_sa u 6 (F) (k))) rfl d_RN_evaluateFirst_33 (fun H locs h => ?_)
    refine lv_aload_n hx hb d_RN_evaluateFirst_34 rfl (lv_at hl 0 rfl) ?_
    refine tm_get X h uw_RN 8 rfl rfl 4 (by decide) kw_116 rfl rfl d_RN_evaluateFirst_35 ?_
    refine lv_aload_n hx hb d_RN_evaluateFirst_38 rfl (lv_at hl 0 rfl) ?_
    refine tm_get X h uw_RN 8 rfl rfl 5 (by decide) kw_117 rfl rfl d_RN_evaluateFirst_39 ?_
    refine lv_iload_n hx hb d_RN_evaluateFirst_42 rfl (lv_at hl 1 rfl) ?_
    refine tm_iast X h 10 0 rfl rfl (F) (hF3) (hF) (by decide) (ws' := tm_wC ad cI cL cZ (tm_sa (tm_sa u 6 (F) (k)) 7 (F) (nI e))) rfl d_RN_evaluateFirst_43 (fun H locs h => ?_)
    refine lv_aload_n hx hb d_RN_evaluateFirst_44 rfl (lv_at hl 0 rfl) ?_
    refine tm_get X h uw_RN 8 rfl rfl 1 (by decide) kw_112 rfl rfl d_RN_evaluateFirst_45 ?_
    refine lv_iconst (v := 0) hx hb d_RN_evaluateFirst_48 (by decide) ?_
    refine lv_aload_n hx hb d_RN_evaluateFirst_49 rfl (lv_at hl 0 rfl) ?_
    refine tm_get X h uw_RN 8 rfl rfl 5 (by decide) kw_117 rfl rfl d_RN_evaluateFirst_50 ?_
    refine tm_top (y := nI F) (hF) ?_
    refine tm_cIf X h (tm_rSN X h (c_RW_ofFrame l D cI cL cZ ad (F) (tm_sa (tm_sa u 6 (F) (k)) 7 (F) (nI e))  _) ks_RW_ofFrame kw_395 rfl rfl ⟨by decide, by decide⟩ rfl hl.1 rfl (Nat.le_of_ble_eq_true rfl) d_RN_evaluateFirst_53 ⟨by decide, by decide⟩) (fun H locs h => ?_)
    refine lv_iload_n hx hb d_RN_evaluateFirst_56 rfl (lv_at hl 3 rfl) ?_
    refine tm_cVf X h (tm_rVN (q0 := 11) X h (c_RW_copyTrimmed l D cI cL cZ ad (0) (1 + F) (m) (tm_sa (tm_sa u 6 (F) (k)) 7 (F) (nI e)) (by decide) (by omega) _) ki_RW_copyTrimmed kw_462 rfl rfl rfl rfl rfl ⟨by decide, by decide⟩ rfl hl.1 rfl (Nat.le_of_ble_eq_true rfl) d_RN_evaluateFirst_57 ⟨by decide, by decide⟩) (fun H locs h => ?_)
    refine lv_aload_n hx hb d_RN_evaluateFirst_60 rfl (lv_at hl 0 rfl) ?_
    refine lv_dup hx hb d_RN_evaluateFirst_61 rfl ?_
    refine tm_get X h uw_RN 8 rfl rfl 5 (by decide) kw_117 rfl rfl d_RN_evaluateFirst_62 ?_
    refine lv_iconst (v := 1) hx hb d_RN_evaluateFirst_65 (by decide) ?_
    refine lv_iadd hx hb d_RN_evaluateFirst_66 ?_
    refine tm_top (y := nI (F + 1)) (by show u.1 0 + 1 = _; rw [hF, nI_1]) ?_
    refine tm_put X h uw_RN t_RN t_RN_ok n_RN 8 rfl rfl 5 (by decide) kw_117 rfl rfl (rfl) (rfl) (Nat.le_of_ble_eq_true rfl) (ws' := tm_wC ad cI cL cZ (tm_sf (cs_copyT (tm_sa (tm_sa u 6 (F) (k)) 7 (F) (nI e)) (0) (1 + F) (m)) 0 (nI (F + 1)))) rfl d_RN_evaluateFirst_67 (fun H locs h => ?_)
    refine lv_aload_n hx hb d_RN_evaluateFirst_70 rfl (lv_at hl 0 rfl) ?_
    refine lv_aload_n hx hb d_RN_evaluateFirst_71 rfl (lv_at hl 0 rfl) ?_
    refine tm_get X h uw_RN 8 rfl rfl 0 (by decide) kw_111 rfl rfl d_RN_evaluateFirst_72 ?_
    refine tm_getN X h uw_EX 1 rfl rfl 1 (by decide) kw_36 rfl rfl d_RN_evaluateFirst_75 ?_
    refine lv_iload_n hx hb d_RN_evaluateFirst_78 rfl (lv_at hl 1 rfl) ?_
    refine tm_iald X h 3 0 rfl rfl (e) (he) (rfl) (by decide) d_RN_evaluateFirst_79 ?_
    refine tm_top (y := nI a) (h1) ?_
    refine tm_cVf X h (tm_rV (q0 := 8) X h (c_RN_evaluateTrimmed l D cI cL cZ ad (a) (tm_sf (cs_copyT (tm_sa (tm_sa u 6 (F) (k)) 7 (F) (nI e)) (0) (1 + F) (m)) 0 (nI (F + 1))) (ha) _) ki_RN_evaluateTrimmed kw_350 rfl rfl rfl rfl rfl ⟨by decide, by decide⟩ rfl hl.1 rfl (Nat.le_of_ble_eq_true rfl) d_RN_evaluateFirst_80 ⟨by decide, by decide⟩) (fun H locs h => ?_)
    exact tx_vret (w := tm_wC ad cI cL cZ) (u := (cs_ev (tm_sf (cs_copyT (tm_sa (tm_sa u 6 (F) (k)) 7 (F) (nI e)) (0) (1 + F) (m)) 0 (nI (F + 1))) (a))) X h (⟨rfl, hF3⟩) d_RN_evaluateFirst_83
  · refine lv_aload_n hx hb d_RN_evaluateFirst_9 rfl (lv_at hl 0 rfl) ?_
    refine lv_iconst (v := 3) hx hb d_RN_evaluateFirst_10 (by decide) ?_
    refine tm_put X h uw_RN t_RN t_RN_ok n_RN 8 rfl rfl 6 (by decide) kw_119 rfl rfl (rfl) (rfl) (Nat.le_of_ble_eq_true rfl) (ws' := tm_wC ad cI cL cZ (tm_sf u 1 (3))) rfl d_RN_evaluateFirst_11 (fun H locs h => ?_)
    exact tx_throw (w := tm_wC ad cI cL cZ) (u := (tm_sf u 1 (3))) (cls := "java/lang/IllegalStateException") (text := "more frames than any capacity") X htab hE hst h (by decide) kw_459 kw_10 (List.mem_of_getElem? (i := 9) rfl) ta_RN_146 (by decide +kernel) hl.1 d_RN_evaluateFirst_14 d_RN_evaluateFirst_17 d_RN_evaluateFirst_18 d_RN_evaluateFirst_20 d_RN_evaluateFirst_23 (by decide) (Nat.le_of_ble_eq_true rfl) (by decide) (by decide) (⟨rfl, rfl, by have : ¬ F < 120 := fun q => h6f ((nI_ltI (b := 120) (by omega) (by decide)).mpr q); omega⟩)
theorem d_RN_evaluate_0 : decode b_RN_evaluate 0 = .ok (.aload_n 0, 1) := by decide +kernel
theorem d_RN_evaluate_1 : decode b_RN_evaluate 1 = .ok (.getfield 88, 3) := by decide +kernel
theorem d_RN_evaluate_4 : decode b_RN_evaluate 4 = .ok (.istore_n 1, 1) := by decide +kernel
theorem d_RN_evaluate_5 : decode b_RN_evaluate 5 = .ok (.aload_n 0, 1) := by decide +kernel
theorem d_RN_evaluate_6 : decode b_RN_evaluate 6 = .ok (.getfield 36, 3) := by decide +kernel
theorem d_RN_evaluate_9 : decode b_RN_evaluate 9 = .ok (.getfield 91, 3) := by decide +kernel
theorem d_RN_evaluate_12 : decode b_RN_evaluate 12 = .ok (.iload_n 1, 1) := by decide +kernel
theorem d_RN_evaluate_13 : decode b_RN_evaluate 13 = .ok (.iaload, 1) := by decide +kernel
theorem d_RN_evaluate_14 : decode b_RN_evaluate 14 = .ok (.tableswitch 119 0 4 #[34, 51, 67, 75, 97], 34) := by decide +kernel
theorem d_RN_evaluate_48 : decode b_RN_evaluate 48 = .ok (.aload_n 0, 1) := by decide +kernel
theorem d_RN_evaluate_49 : decode b_RN_evaluate 49 = .ok (.aload_n 0, 1) := by decide +kernel
theorem d_RN_evaluate_50 : decode b_RN_evaluate 50 = .ok (.getfield 36, 3) := by decide +kernel
theorem d_RN_evaluate_53 : decode b_RN_evaluate 53 = .ok (.getfield 96, 3) := by decide +kernel
theorem d_RN_evaluate_56 : decode b_RN_evaluate 56 = .ok (.iload_n 1, 1) := by decide +kernel
theorem d_RN_evaluate_57 : decode b_RN_evaluate 57 = .ok (.iaload, 1) := by decide +kernel
theorem d_RN_evaluate_58 : decode b_RN_evaluate 58 = .ok (.i2l, 1) := by decide +kernel
theorem d_RN_evaluate_59 : decode b_RN_evaluate 59 = .ok (.invokevirtual 99, 3) := by decide +kernel
theorem d_RN_evaluate_62 : decode b_RN_evaluate 62 = .ok (.goto 104, 3) := by decide +kernel
theorem d_RN_evaluate_65 : decode b_RN_evaluate 65 = .ok (.aload_n 0, 1) := by decide +kernel
theorem d_RN_evaluate_66 : decode b_RN_evaluate 66 = .ok (.aload_n 0, 1) := by decide +kernel
theorem d_RN_evaluate_67 : decode b_RN_evaluate 67 = .ok (.getfield 36, 3) := by decide +kernel
theorem d_RN_evaluate_70 : decode b_RN_evaluate 70 = .ok (.getfield 96, 3) := by decide +kernel
theorem d_RN_evaluate_73 : decode b_RN_evaluate 73 = .ok (.iload_n 1, 1) := by decide +kernel
theorem d_RN_evaluate_74 : decode b_RN_evaluate 74 = .ok (.iaload, 1) := by decide +kernel
theorem d_RN_evaluate_75 : decode b_RN_evaluate 75 = .ok (.invokevirtual 103, 3) := by decide +kernel
theorem d_RN_evaluate_78 : decode b_RN_evaluate 78 = .ok (.goto 88, 3) := by decide +kernel
theorem d_RN_evaluate_81 : decode b_RN_evaluate 81 = .ok (.aload_n 0, 1) := by decide +kernel
theorem d_RN_evaluate_82 : decode b_RN_evaluate 82 = .ok (.iload_n 1, 1) := by decide +kernel
theorem d_RN_evaluate_83 : decode b_RN_evaluate 83 = .ok (.invokevirtual 106, 3) := by decide +kernel
theorem d_RN_evaluate_86 : decode b_RN_evaluate 86 = .ok (.goto 80, 3) := by decide +kernel
theorem d_RN_evaluate_89 : decode b_RN_evaluate 89 = .ok (.aload_n 0, 1) := by decide +kernel
theorem d_RN_evaluate_90 : decode b_RN_evaluate 90 = .ok (.iload_n 1, 1) := by decide +kernel
theorem d_RN_evaluate_91 : decode b_RN_evaluate 91 = .ok (.iconst 0, 1) := by decide +kernel
theorem d_RN_evaluate_92 : decode b_RN_evaluate 92 = .ok (.aload_n 0, 1) := by decide +kernel
theorem d_RN_evaluate_93 : decode b_RN_evaluate 93 = .ok (.aload_n 0, 1) := by decide +kernel
theorem d_RN_evaluate_94 : decode b_RN_evaluate 94 = .ok (.getfield 36, 3) := by decide +kernel
theorem d_RN_evaluate_97 : decode b_RN_evaluate 97 = .ok (.getfield 109, 3) := by decide +kernel
theorem d_RN_evaluate_100 : decode b_RN_evaluate 100 = .ok (.iload_n 1, 1) := by decide +kernel
theorem d_RN_evaluate_101 : decode b_RN_evaluate 101 = .ok (.iaload, 1) := by decide +kernel
theorem d_RN_evaluate_102 : decode b_RN_evaluate 102 = .ok (.invokevirtual 112, 3) := by decide +kernel
theorem d_RN_evaluate_105 : decode b_RN_evaluate 105 = .ok (.invokevirtual 116, 3) := by decide +kernel
theorem d_RN_evaluate_108 : decode b_RN_evaluate 108 = .ok (.goto 58, 3) := by decide +kernel
theorem d_RN_evaluate_111 : decode b_RN_evaluate 111 = .ok (.aload_n 0, 1) := by decide +kernel
theorem d_RN_evaluate_112 : decode b_RN_evaluate 112 = .ok (.iload_n 1, 1) := by decide +kernel
theorem d_RN_evaluate_113 : decode b_RN_evaluate 113 = .ok (.iconst 2, 1) := by decide +kernel
theorem d_RN_evaluate_114 : decode b_RN_evaluate 114 = .ok (.aload_n 0, 1) := by decide +kernel
theorem d_RN_evaluate_115 : decode b_RN_evaluate 115 = .ok (.aload_n 0, 1) := by decide +kernel
theorem d_RN_evaluate_116 : decode b_RN_evaluate 116 = .ok (.getfield 36, 3) := by decide +kernel
theorem d_RN_evaluate_119 : decode b_RN_evaluate 119 = .ok (.getfield 109, 3) := by decide +kernel
theorem d_RN_evaluate_122 : decode b_RN_evaluate 122 = .ok (.iload_n 1, 1) := by decide +kernel
theorem d_RN_evaluate_123 : decode b_RN_evaluate 123 = .ok (.iaload, 1) := by decide +kernel
theorem d_RN_evaluate_124 : decode b_RN_evaluate 124 = .ok (.invokevirtual 112, 3) := by decide +kernel
theorem d_RN_evaluate_127 : decode b_RN_evaluate 127 = .ok (.invokevirtual 116, 3) := by decide +kernel
theorem d_RN_evaluate_130 : decode b_RN_evaluate 130 = .ok (.goto 36, 3) := by decide +kernel
theorem d_RN_evaluate_133 : decode b_RN_evaluate 133 = .ok (.aload_n 0, 1) := by decide +kernel
theorem d_RN_evaluate_134 : decode b_RN_evaluate 134 = .ok (.iload_n 1, 1) := by decide +kernel
theorem d_RN_evaluate_135 : decode b_RN_evaluate 135 = .ok (.iconst 4, 1) := by decide +kernel
theorem d_RN_evaluate_136 : decode b_RN_evaluate 136 = .ok (.aload_n 0, 1) := by decide +kernel
theorem d_RN_evaluate_137 : decode b_RN_evaluate 137 = .ok (.aload_n 0, 1) := by decide +kernel
theorem d_RN_evaluate_138 : decode b_RN_evaluate 138 = .ok (.getfield 36, 3) := by decide +kernel
theorem d_RN_evaluate_141 : decode b_RN_evaluate 141 = .ok (.getfield 109, 3) := by decide +kernel
theorem d_RN_evaluate_144 : decode b_RN_evaluate 144 = .ok (.iload_n 1, 1) := by decide +kernel
theorem d_RN_evaluate_145 : decode b_RN_evaluate 145 = .ok (.iaload, 1) := by decide +kernel
theorem d_RN_evaluate_146 : decode b_RN_evaluate 146 = .ok (.invokevirtual 112, 3) := by decide +kernel
theorem d_RN_evaluate_149 : decode b_RN_evaluate 149 = .ok (.aload_n 0, 1) := by decide +kernel
theorem d_RN_evaluate_150 : decode b_RN_evaluate 150 = .ok (.aload_n 0, 1) := by decide +kernel
theorem d_RN_evaluate_151 : decode b_RN_evaluate 151 = .ok (.getfield 36, 3) := by decide +kernel
theorem d_RN_evaluate_154 : decode b_RN_evaluate 154 = .ok (.getfield 120, 3) := by decide +kernel
theorem d_RN_evaluate_157 : decode b_RN_evaluate 157 = .ok (.iload_n 1, 1) := by decide +kernel
theorem d_RN_evaluate_158 : decode b_RN_evaluate 158 = .ok (.iaload, 1) := by decide +kernel
theorem d_RN_evaluate_159 : decode b_RN_evaluate 159 = .ok (.invokevirtual 112, 3) := by decide +kernel
theorem d_RN_evaluate_162 : decode b_RN_evaluate 162 = .ok (.ior, 1) := by decide +kernel
theorem d_RN_evaluate_163 : decode b_RN_evaluate 163 = .ok (.invokevirtual 116, 3) := by decide +kernel
theorem d_RN_evaluate_166 : decode b_RN_evaluate 166 = .ok (.return_, 1) := by decide +kernel
set_option maxHeartbeats 4000000 in
set_option maxRecDepth 100000 in
theorem c_RN_evaluate (l : Launch) (D : va_G) (cI cL cZ : ClassId) (ad : Nat → Nat) (hst : l.stackTraces = false) (e : Nat) (F : Nat) (u : tm_SC) (hI : cs_EI u e F) : tx_V l y_RN_evaluate b_RN_evaluate 2 ({ frames := 7, cells := 1, slots := 6, locals := 128 } : Room) D (tm_yC cI cL cZ) (tm_wC ad cI cL cZ) [.ref (ad 8)] u (fun u' => cs_evP u e F u') (fun E u' => cs_evX u e F E u') := by
  intro sz
  refine tx_of (Qc := fun A => va_Qv (fun u' => cs_evP u e F u') (fun u' t => tm_B D (tm_yC cI cL cZ) A (tm_wC ad cI cL cZ u') t) A) (XC := fun A => tx_X D (tm_yC cI cL cZ) (tm_wC ad cI cL cZ) A (fun E u' => cs_evX u e F E u')) (by decide) (Nat.le_of_ble_eq_true rfl) ?_ sz
  intro pg eg sg mg bel met cg A ls X h hl hE htab
  have hx := X.1.1
  have hb := X.1.2.1
  have hl : lv_has ls 2 [(0, .ref (ad 8))] := hl
  refine lv_aload_n hx hb d_RN_evaluate_0 rfl (lv_at hl 0 rfl) ?_
  refine tm_get X h uw_RN 8 rfl rfl 12 (by decide) kw_129 rfl rfl d_RN_evaluate_1 ?_
  refine tm_top (y := nI e) (hI.1) ?_
  refine lv_istore_n hx hb d_RN_evaluate_4 rfl hl (by decide) rfl (fun ls (hl : lv_has ls 2 [(1, .int (nI e)), (0, .ref (ad 8))]) => ?_)
  refine lv_aload_n hx hb d_RN_evaluate_5 rfl (lv_at hl 1 rfl) ?_
  refine tm_get X h uw_RN 8 rfl rfl 0 (by decide) kw_111 rfl rfl d_RN_evaluate_6 ?_
  refine tm_getN X h uw_EX 1 rfl rfl 0 (by decide) kw_33 rfl rfl d_RN_evaluate_9 ?_
  refine lv_iload_n hx hb d_RN_evaluate_12 rfl (lv_at hl 0 rfl) ?_
  refine tm_iald X h 2 0 rfl rfl (e) (hI.2.1) (rfl) (by decide) d_RN_evaluate_13 ?_
  by_cases q14_0 : ((u).2.1 0 (e)) = 0
  · refine tm_sw 0 q14_0 hx hb d_RN_evaluate_14 (tgt := 48) (by decide) (by decide) rfl rfl ?_
    refine lv_aload_n hx hb d_RN_evaluate_48 rfl (lv_at hl 1 rfl) ?_
    refine lv_aload_n hx hb d_RN_evaluate_49 rfl (lv_at hl 1 rfl) ?_
    refine tm_get X h uw_RN 8 rfl rfl 0 (by decide) kw_111 rfl rfl d_RN_evaluate_50 ?_
    refine tm_getN X h uw_EX 1 rfl rfl 1 (by decide) kw_36 rfl rfl d_RN_evaluate_53 ?_
    refine lv_iload_n hx hb d_RN_evaluate_56 rfl (lv_at hl 0 rfl) ?_
    refine tm_iald X h 3 0 rfl rfl (e) (hI.2.1) (rfl) (by decide) d_RN_evaluate_57 ?_
    refine lv_i2l hx hb d_RN_evaluate_58 rfl ?_
    refine tm_cVf X h (tm_rV (q0 := 8) X h (c_RN_returnValue l D cI cL cZ ad ((((u).2.1 1 (e))).toInt64) u  _) ki_RN_returnValue kw_419 rfl rfl rfl rfl rfl ⟨by decide, by decide⟩ rfl hl.1 rfl (Nat.le_of_ble_eq_true rfl) d_RN_evaluate_59 ⟨by decide, by decide⟩) (fun H locs h => ?_)
    refine lv_goto hx hb d_RN_evaluate_62 (tgt := 166) rfl ?_
    exact tx_vret (w := tm_wC ad cI cL cZ) (u := (cs_ret u ((((u).2.1 1 (e))).toInt64))) X h (Or.inl ⟨q14_0, rfl⟩) d_RN_evaluate_166
  by_cases q14_1 : ((u).2.1 0 (e)) = 1
  · refine tm_sw 1 q14_1 hx hb d_RN_evaluate_14 (tgt := 65) (by decide) (by decide) rfl rfl ?_
    have hv8 := hI.2.2.2.2.1 q14_1
    refine lv_aload_n hx hb d_RN_evaluate_65 rfl (lv_at hl 1 rfl) ?_
    refine lv_aload_n hx hb d_RN_evaluate_66 rfl (lv_at hl 1 rfl) ?_
    refine tm_get X h uw_RN 8 rfl rfl 0 (by decide) kw_111 rfl rfl d_RN_evaluate_67 ?_
    refine tm_getN X h uw_EX 1 rfl rfl 1 (by decide) kw_36 rfl rfl d_RN_evaluate_70 ?_
    refine lv_iload_n hx hb d_RN_evaluate_73 rfl (lv_at hl 0 rfl) ?_
    refine tm_iald X h 3 0 rfl rfl (e) (hI.2.1) (rfl) (by decide) d_RN_evaluate_74 ?_
    refine tm_top (y := nI ((u.2.1 1 e).toNatClampNeg)) ((tm_vin hv8 (by decide)).2) ?_
    refine tx_cVf X h (tx_rV (q0 := 8) X h hE (c_RN_evaluateVariable l D cI cL cZ ad hst ((u.2.1 1 e).toNatClampNeg) u ((tm_vin hv8 (by decide)).1) _) ki_RN_evaluateVariable kw_431 rfl rfl rfl rfl rfl ⟨by decide, by decide⟩ rfl hl.1 rfl (Nat.le_of_ble_eq_true rfl) d_RN_evaluate_75 ⟨by decide, by decide⟩) (fun E9 u9 q9 ce9 H locs hx9 h e91 e92 e93 => tx_out (w := tm_wC ad cI cL cZ) (u := u9) X htab h e91 e92 e93 (⟨hx9.2.1, Or.inl ⟨hx9.1, q14_1, by rw [(tm_vin hv8 (by decide)).2]; exact hx9.2.2⟩⟩)) (fun H locs f75 h => ?_)
    refine lv_goto hx hb d_RN_evaluate_78 (tgt := 166) rfl ?_
    exact tx_vret (w := tm_wC ad cI cL cZ) (u := (cs_ret u (u.2.2 (0 * 8 + ((u.2.1 1 e).toNatClampNeg))))) X h (Or.inr (Or.inl ⟨q14_1, by rw [(tm_vin hv8 (by decide)).2]; exact f75, rfl⟩)) d_RN_evaluate_166
  by_cases q14_2 : ((u).2.1 0 (e)) = 2
  · refine tm_sw 2 q14_2 hx hb d_RN_evaluate_14 (tgt := 81) (by decide) (by decide) rfl rfl ?_
    refine lv_aload_n hx hb d_RN_evaluate_81 rfl (lv_at hl 1 rfl) ?_
    refine lv_iload_n hx hb d_RN_evaluate_82 rfl (lv_at hl 0 rfl) ?_
    refine tx_cV X h (tx_rV (q0 := 8) X h hE (c_RN_evaluateFunction l D cI cL cZ ad hst (e) u (hI.2.1) _) ki_RN_evaluateFunction kw_451 rfl rfl rfl rfl rfl ⟨by decide, by decide⟩ rfl hl.1 rfl (Nat.le_of_ble_eq_true rfl) d_RN_evaluate_83 ⟨by decide, by decide⟩) (fun E9 u9 q9 ce9 H locs hx9 h e91 e92 e93 => tx_out (w := tm_wC ad cI cL cZ) (u := u9) X htab h e91 e92 e93 (⟨hx9.2.1, Or.inr (Or.inl ⟨hx9.1, q14_2, hx9.2.2⟩)⟩)) (fun u83 H locs hp83 h => ?_)
    refine lv_goto hx hb d_RN_evaluate_86 (tgt := 166) rfl ?_
    exact tx_vret (w := tm_wC ad cI cL cZ) (u := u83) X h (Or.inr (Or.inr (Or.inl ⟨q14_2, hp83⟩))) d_RN_evaluate_166
  by_cases q14_3 : ((u).2.1 0 (e)) = 3
  · refine tm_sw 3 q14_3 hx hb d_RN_evaluate_14 (tgt := 89) (by decide) (by decide) rfl rfl ?_
    have hv0 := hI.2.2.2.2.2 q14_0 q14_1 q14_2
    have hv1 := hv0.1
    have hv2 := hv0.2.1
    refine lv_aload_n hx hb d_RN_evaluate_89 rfl (lv_at hl 1 rfl) ?_
    refine lv_iload_n hx hb d_RN_evaluate_90 rfl (lv_at hl 0 rfl) ?_
    refine lv_iconst (v := 0) hx hb d_RN_evaluate_91 (by decide) ?_
    refine lv_aload_n hx hb d_RN_evaluate_92 rfl (lv_at hl 1 rfl) ?_
    refine lv_aload_n hx hb d_RN_evaluate_93 rfl (lv_at hl 1 rfl) ?_
    refine tm_get X h uw_RN 8 rfl rfl 0 (by decide) kw_111 rfl rfl d_RN_evaluate_94 ?_
    refine tm_getN X h uw_EX 1 rfl rfl 2 (by decide) kw_39 rfl rfl d_RN_evaluate_97 ?_
    refine lv_iload_n hx hb d_RN_evaluate_100 rfl (lv_at hl 0 rfl) ?_
    refine tm_iald X h 4 0 rfl rfl (e) (hI.2.1) (rfl) (by decide) d_RN_evaluate_101 ?_
    refine tm_top (y := nI ((u.2.1 2 e).toNatClampNeg)) ((tm_vin hv2 (by decide)).2) ?_
    refine tm_cIf X h (tm_rV (q0 := 8) X h (c_RN_freeIn l D cI cL cZ ad ((u.2.1 2 e).toNatClampNeg) u ((tm_vin hv2 (by decide)).1) _) ki_RN_freeIn kw_354 rfl rfl rfl rfl rfl ⟨by decide, by decide⟩ rfl hl.1 rfl (Nat.le_of_ble_eq_true rfl) d_RN_evaluate_102 ⟨by decide, by decide⟩) (fun H locs h => ?_)
    refine tx_cVf X h (tx_rV (q0 := 8) X h hE (c_RN_evaluateFirst l D cI cL cZ ad hst (F) (e) ((u.2.1 1 e).toNatClampNeg) (0) ((u.2.1 4 ((u.2.1 2 e).toNatClampNeg))) u (hI.2.2.1) (hI.2.2.2.1) (hI.2.1) ((tm_vin hv1 (by decide)).1) ((tm_vin hv1 (by decide)).2) _) ki_RN_evaluateFirst kw_477 rfl rfl rfl rfl rfl ⟨by decide, by decide⟩ rfl hl.1 rfl (Nat.le_of_ble_eq_true rfl) d_RN_evaluate_105 ⟨by decide, by decide⟩) (fun E9 u9 q9 ce9 H locs hx9 h e91 e92 e93 => tx_out (w := tm_wC ad cI cL cZ) (u := u9) X htab h e91 e92 e93 (⟨hx9.2.1, Or.inr (Or.inr ⟨hx9.1, q14_0, q14_1, q14_2, hx9.2.2⟩)⟩)) (fun H locs f105 h => ?_)
    refine lv_goto hx hb d_RN_evaluate_108 (tgt := 166) rfl ?_
    exact tx_vret (w := tm_wC ad cI cL cZ) (u := (cs_fst u (F) (e) ((u.2.1 1 e).toNatClampNeg) (0) ((u.2.1 4 ((u.2.1 2 e).toNatClampNeg))))) X h (Or.inr (Or.inr (Or.inr ⟨q14_0, q14_1, q14_2, f105, by unfold cs_kd cs_mk; rw [if_pos q14_3, if_pos (Or.inl q14_3)]⟩))) d_RN_evaluate_166
  by_cases q14_4 : ((u).2.1 0 (e)) = 4
  · refine tm_sw 4 q14_4 hx hb d_RN_evaluate_14 (tgt := 111) (by decide) (by decide) rfl rfl ?_
    have hv0 := hI.2.2.2.2.2 q14_0 q14_1 q14_2
    have hv1 := hv0.1
    have hv2 := hv0.2.1
    refine lv_aload_n hx hb d_RN_evaluate_111 rfl (lv_at hl 1 rfl) ?_
    refine lv_iload_n hx hb d_RN_evaluate_112 rfl (lv_at hl 0 rfl) ?_
    refine lv_iconst (v := 2) hx hb d_RN_evaluate_113 (by decide) ?_
    refine lv_aload_n hx hb d_RN_evaluate_114 rfl (lv_at hl 1 rfl) ?_
    refine lv_aload_n hx hb d_RN_evaluate_115 rfl (lv_at hl 1 rfl) ?_
    refine tm_get X h uw_RN 8 rfl rfl 0 (by decide) kw_111 rfl rfl d_RN_evaluate_116 ?_
    refine tm_getN X h uw_EX 1 rfl rfl 2 (by decide) kw_39 rfl rfl d_RN_evaluate_119 ?_
    refine lv_iload_n hx hb d_RN_evaluate_122 rfl (lv_at hl 0 rfl) ?_
    refine tm_iald X h 4 0 rfl rfl (e) (hI.2.1) (rfl) (by decide) d_RN_evaluate_123 ?_
    refine tm_top (y := nI ((u.2.1 2 e).toNatClampNeg)) ((tm_vin hv2 (by decide)).2) ?_
    refine tm_cIf X h (tm_rV (q0 := 8) X h (c_RN_freeIn l D cI cL cZ ad ((u.2.1 2 e).toNatClampNeg) u ((tm_vin hv2 (by decide)).1) _) ki_RN_freeIn kw_354 rfl rfl rfl rfl rfl ⟨by decide, by decide⟩ rfl hl.1 rfl (Nat.le_of_ble_eq_true rfl) d_RN_evaluate_124 ⟨by decide, by decide⟩) (fun H locs h => ?_)
    refine tx_cVf X h (tx_rV (q0 := 8) X h hE (c_RN_evaluateFirst l D cI cL cZ ad hst (F) (e) ((u.2.1 1 e).toNatClampNeg) (2) ((u.2.1 4 ((u.2.1 2 e).toNatClampNeg))) u (hI.2.2.1) (hI.2.2.2.1) (hI.2.1) ((tm_vin hv1 (by decide)).1) ((tm_vin hv1 (by decide)).2) _) ki_RN_evaluateFirst kw_477 rfl rfl rfl rfl rfl ⟨by decide, by decide⟩ rfl hl.1 rfl (Nat.le_of_ble_eq_true rfl) d_RN_evaluate_127 ⟨by decide, by decide⟩) (fun E9 u9 q9 ce9 H locs hx9 h e91 e92 e93 => tx_out (w := tm_wC ad cI cL cZ) (u := u9) X htab h e91 e92 e93 (⟨hx9.2.1, Or.inr (Or.inr ⟨hx9.1, q14_0, q14_1, q14_2, hx9.2.2⟩)⟩)) (fun H locs f127 h => ?_)
    refine lv_goto hx hb d_RN_evaluate_130 (tgt := 166) rfl ?_
    exact tx_vret (w := tm_wC ad cI cL cZ) (u := (cs_fst u (F) (e) ((u.2.1 1 e).toNatClampNeg) (2) ((u.2.1 4 ((u.2.1 2 e).toNatClampNeg))))) X h (Or.inr (Or.inr (Or.inr ⟨q14_0, q14_1, q14_2, f127, by unfold cs_kd cs_mk; rw [if_neg q14_3, if_pos q14_4, if_pos (Or.inr q14_4)]⟩))) d_RN_evaluate_166
  refine lv_tableOut hx hb d_RN_evaluate_14 (tm_swo5 q14_0 q14_1 q14_2 q14_3 q14_4) (tgt := 133) rfl ?_
  have hv0 := hI.2.2.2.2.2 q14_0 q14_1 q14_2
  have hv1 := hv0.1
  have hv2 := hv0.2.1
  have hv3 := hv0.2.2 q14_3 q14_4
  refine lv_aload_n hx hb d_RN_evaluate_133 rfl (lv_at hl 1 rfl) ?_
  refine lv_iload_n hx hb d_RN_evaluate_134 rfl (lv_at hl 0 rfl) ?_
  refine lv_iconst (v := 4) hx hb d_RN_evaluate_135 (by decide) ?_
  refine lv_aload_n hx hb d_RN_evaluate_136 rfl (lv_at hl 1 rfl) ?_
  refine lv_aload_n hx hb d_RN_evaluate_137 rfl (lv_at hl 1 rfl) ?_
  refine tm_get X h uw_RN 8 rfl rfl 0 (by decide) kw_111 rfl rfl d_RN_evaluate_138 ?_
  refine tm_getN X h uw_EX 1 rfl rfl 2 (by decide) kw_39 rfl rfl d_RN_evaluate_141 ?_
  refine lv_iload_n hx hb d_RN_evaluate_144 rfl (lv_at hl 0 rfl) ?_
  refine tm_iald X h 4 0 rfl rfl (e) (hI.2.1) (rfl) (by decide) d_RN_evaluate_145 ?_
  refine tm_top (y := nI ((u.2.1 2 e).toNatClampNeg)) ((tm_vin hv2 (by decide)).2) ?_
  refine tm_cIf X h (tm_rV (q0 := 8) X h (c_RN_freeIn l D cI cL cZ ad ((u.2.1 2 e).toNatClampNeg) u ((tm_vin hv2 (by decide)).1) _) ki_RN_freeIn kw_354 rfl rfl rfl rfl rfl ⟨by decide, by decide⟩ rfl hl.1 rfl (Nat.le_of_ble_eq_true rfl) d_RN_evaluate_146 ⟨by decide, by decide⟩) (fun H locs h => ?_)
  refine lv_aload_n hx hb d_RN_evaluate_149 rfl (lv_at hl 1 rfl) ?_
  refine lv_aload_n hx hb d_RN_evaluate_150 rfl (lv_at hl 1 rfl) ?_
  refine tm_get X h uw_RN 8 rfl rfl 0 (by decide) kw_111 rfl rfl d_RN_evaluate_151 ?_
  refine tm_getN X h uw_EX 1 rfl rfl 3 (by decide) kw_42 rfl rfl d_RN_evaluate_154 ?_
  refine lv_iload_n hx hb d_RN_evaluate_157 rfl (lv_at hl 0 rfl) ?_
  refine tm_iald X h 5 0 rfl rfl (e) (hI.2.1) (rfl) (by decide) d_RN_evaluate_158 ?_
  refine tm_top (y := nI ((u.2.1 3 e).toNatClampNeg)) ((tm_vin hv3 (by decide)).2) ?_
  refine tm_cIf X h (tm_rV (q0 := 8) X h (c_RN_freeIn l D cI cL cZ ad ((u.2.1 3 e).toNatClampNeg) u ((tm_vin hv3 (by decide)).1) _) ki_RN_freeIn kw_354 rfl rfl rfl rfl rfl ⟨by decide, by decide⟩ rfl hl.1 rfl (Nat.le_of_ble_eq_true rfl) d_RN_evaluate_159 ⟨by decide, by decide⟩) (fun H locs h => ?_)
  refine lv_ior hx hb d_RN_evaluate_162 ?_
  refine tx_cVf X h (tx_rV (q0 := 8) X h hE (c_RN_evaluateFirst l D cI cL cZ ad hst (F) (e) ((u.2.1 1 e).toNatClampNeg) (4) (((u.2.1 4 ((u.2.1 2 e).toNatClampNeg)) ||| (u.2.1 4 ((u.2.1 3 e).toNatClampNeg)))) u (hI.2.2.1) (hI.2.2.2.1) (hI.2.1) ((tm_vin hv1 (by decide)).1) ((tm_vin hv1 (by decide)).2) _) ki_RN_evaluateFirst kw_477 rfl rfl rfl rfl rfl ⟨by decide, by decide⟩ rfl hl.1 rfl (Nat.le_of_ble_eq_true rfl) d_RN_evaluate_163 ⟨by decide, by decide⟩) (fun E9 u9 q9 ce9 H locs hx9 h e91 e92 e93 => tx_out (w := tm_wC ad cI cL cZ) (u := u9) X htab h e91 e92 e93 (⟨hx9.2.1, Or.inr (Or.inr ⟨hx9.1, q14_0, q14_1, q14_2, hx9.2.2⟩)⟩)) (fun H locs f163 h => ?_)
  exact tx_vret (w := tm_wC ad cI cL cZ) (u := (cs_fst u (F) (e) ((u.2.1 1 e).toNatClampNeg) (4) (((u.2.1 4 ((u.2.1 2 e).toNatClampNeg)) ||| (u.2.1 4 ((u.2.1 3 e).toNatClampNeg)))))) X h (Or.inr (Or.inr (Or.inr ⟨q14_0, q14_1, q14_2, f163, by unfold cs_kd cs_mk; rw [if_neg q14_3, if_neg q14_4, if_neg (fun q => q.elim q14_3 q14_4)]⟩))) d_RN_evaluate_166
