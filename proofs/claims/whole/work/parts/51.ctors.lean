theorem kw_2 : (Jvm.Cond.initialized "TrimmedMachine$Expressions") ∈ tm_wa := tm_tb (List.mem_append_left _ (List.mem_of_getElem? (i := 2) (by decide +kernel))) rfl
theorem kw_22 : (Jvm.Cond.code ({ cls := "TrimmedMachine", name := "<init>", desc := "()V" } : Jvm.MethodName) prog_1_method_1_code (1 : Nat) (Option.none : Option Jvm.ClassFile.FieldType)) ∈ tm_wa := tm_tb (List.mem_append_left _ (List.mem_of_getElem? (i := 22) (rfl))) rfl
theorem kw_23 : (Jvm.Cond.methodLink "TrimmedMachine" (1 : Nat) ({ cls := "java/lang/Object", name := "<init>", desc := "()V" } : Jvm.MethodName)) ∈ tm_wa := tm_tb (List.mem_append_left _ (List.mem_of_getElem? (i := 23) (by decide +kernel))) rfl
theorem kw_24 : (Jvm.Cond.instanceMethod ({ cls := "java/lang/Object", name := "<init>", desc := "()V" } : Jvm.MethodName)) ∈ tm_wa := tm_tb (List.mem_append_left _ (List.mem_of_getElem? (i := 24) (by decide +kernel))) rfl
theorem kw_25 : (Jvm.Cond.code ({ cls := "java/lang/Object", name := "<init>", desc := "()V" } : Jvm.MethodName) object_method_1_code (1 : Nat) (Option.none : Option Jvm.ClassFile.FieldType)) ∈ tm_wa := tm_tb (List.mem_append_left _ (List.mem_of_getElem? (i := 25) (rfl))) rfl
theorem kw_26 : (Jvm.Cond.classLink "TrimmedMachine" (7 : Nat) "TrimmedMachine$Expressions") ∈ tm_wa := tm_tb (List.mem_append_left _ (List.mem_of_getElem? (i := 26) (by decide +kernel))) rfl
theorem kw_27 : (Jvm.Cond.instantiable "TrimmedMachine$Expressions" (7 : Nat)) ∈ tm_wa := tm_tb (List.mem_append_left _ (List.mem_of_getElem? (i := 27) (by decide +kernel))) rfl
theorem kw_28 : (Jvm.Cond.methodLinkNest "TrimmedMachine" (9 : Nat) ({ cls := "TrimmedMachine$Expressions", name := "<init>", desc := "()V" } : Jvm.MethodName) "TrimmedMachine") ∈ tm_nw := tm_nin (List.mem_append_left _ (List.mem_of_getElem? (i := 28) (by decide +kernel))) rfl
theorem kw_29 : (Jvm.Cond.instanceMethod ({ cls := "TrimmedMachine$Expressions", name := "<init>", desc := "()V" } : Jvm.MethodName)) ∈ tm_wa := tm_tb (List.mem_append_left _ (List.mem_of_getElem? (i := 29) (by decide +kernel))) rfl
theorem kw_30 : (Jvm.Cond.code ({ cls := "TrimmedMachine$Expressions", name := "<init>", desc := "()V" } : Jvm.MethodName) prog_3_method_1_code (1 : Nat) (Option.none : Option Jvm.ClassFile.FieldType)) ∈ tm_wa := tm_tb (List.mem_append_left _ (List.mem_of_getElem? (i := 30) (rfl))) rfl
theorem kw_31 : (Jvm.Cond.methodLink "TrimmedMachine$Expressions" (3 : Nat) ({ cls := "java/lang/Object", name := "<init>", desc := "()V" } : Jvm.MethodName)) ∈ tm_wa := tm_tb (List.mem_append_left _ (List.mem_of_getElem? (i := 31) (by decide +kernel))) rfl
theorem kw_32 : (Jvm.Cond.fieldLink "TrimmedMachine$Expressions" (9 : Nat) "TrimmedMachine$Expressions" "kinds" "[I") ∈ tm_wa := tm_tb (List.mem_append_left _ (List.mem_of_getElem? (i := 32) (by decide +kernel))) rfl
theorem kw_35 : (Jvm.Cond.fieldLink "TrimmedMachine$Expressions" (15 : Nat) "TrimmedMachine$Expressions" "firsts" "[I") ∈ tm_wa := tm_tb (List.mem_append_left _ (List.mem_of_getElem? (i := 35) (by decide +kernel))) rfl
theorem kw_38 : (Jvm.Cond.fieldLink "TrimmedMachine$Expressions" (18 : Nat) "TrimmedMachine$Expressions" "seconds" "[I") ∈ tm_wa := tm_tb (List.mem_append_left _ (List.mem_of_getElem? (i := 38) (by decide +kernel))) rfl
theorem kw_41 : (Jvm.Cond.fieldLink "TrimmedMachine$Expressions" (21 : Nat) "TrimmedMachine$Expressions" "thirds" "[I") ∈ tm_wa := tm_tb (List.mem_append_left _ (List.mem_of_getElem? (i := 41) (by decide +kernel))) rfl
theorem kw_44 : (Jvm.Cond.fieldLink "TrimmedMachine$Expressions" (24 : Nat) "TrimmedMachine$Expressions" "unbound" "[I") ∈ tm_wa := tm_tb (List.mem_append_left _ (List.mem_of_getElem? (i := 44) (by decide +kernel))) rfl
theorem kw_47 : (Jvm.Cond.fieldLink "TrimmedMachine$Expressions" (27 : Nat) "TrimmedMachine$Expressions" "heights" "[I") ∈ tm_wa := tm_tb (List.mem_append_left _ (List.mem_of_getElem? (i := 47) (by decide +kernel))) rfl
theorem kw_65 : (Jvm.Cond.arrayClass Jvm.ClassFile.FieldType.int) ∈ tm_wa := tm_tb (List.mem_append_left _ (List.mem_of_getElem? (i := 65) (by decide +kernel))) rfl
theorem kw_66 : (Jvm.Cond.classLink "TrimmedMachine" (16 : Nat) "TrimmedMachine$Run") ∈ tm_wa := tm_tb (List.mem_append_left _ (List.mem_of_getElem? (i := 66) (by decide +kernel))) rfl
theorem kw_67 : (Jvm.Cond.instantiable "TrimmedMachine$Run" (15 : Nat)) ∈ tm_wa := tm_tb (List.mem_append_left _ (List.mem_of_getElem? (i := 67) (by decide +kernel))) rfl
theorem kw_68 : (Jvm.Cond.methodLinkNest "TrimmedMachine" (18 : Nat) ({ cls := "TrimmedMachine$Run", name := "<init>", desc := "(LTrimmedMachine$Expressions;)V" } : Jvm.MethodName) "TrimmedMachine") ∈ tm_nw := tm_nin (List.mem_append_left _ (List.mem_of_getElem? (i := 68) (by decide +kernel))) rfl
theorem kw_69 : (Jvm.Cond.instanceMethod ({ cls := "TrimmedMachine$Run", name := "<init>", desc := "(LTrimmedMachine$Expressions;)V" } : Jvm.MethodName)) ∈ tm_wa := tm_tb (List.mem_append_left _ (List.mem_of_getElem? (i := 69) (by decide +kernel))) rfl
theorem kw_70 : (Jvm.Cond.code ({ cls := "TrimmedMachine$Run", name := "<init>", desc := "(LTrimmedMachine$Expressions;)V" } : Jvm.MethodName) prog_5_method_1_code (2 : Nat) (Option.none : Option Jvm.ClassFile.FieldType)) ∈ tm_wa := tm_tb (List.mem_append_left _ (List.mem_of_getElem? (i := 70) (rfl))) rfl
theorem kw_71 : (Jvm.Cond.methodLink "TrimmedMachine$Run" (3 : Nat) ({ cls := "java/lang/Object", name := "<init>", desc := "()V" } : Jvm.MethodName)) ∈ tm_wa := tm_tb (List.mem_append_left _ (List.mem_of_getElem? (i := 71) (by decide +kernel))) rfl
theorem kw_72 : (Jvm.Cond.classLink "TrimmedMachine$Run" (9 : Nat) "TrimmedMachine$Rows") ∈ tm_wa := tm_tb (List.mem_append_left _ (List.mem_of_getElem? (i := 72) (by decide +kernel))) rfl
theorem kw_73 : (Jvm.Cond.instantiable "TrimmedMachine$Rows" (2 : Nat)) ∈ tm_wa := tm_tb (List.mem_append_left _ (List.mem_of_getElem? (i := 73) (by decide +kernel))) rfl
theorem kw_74 : (Jvm.Cond.methodLinkNest "TrimmedMachine$Run" (11 : Nat) ({ cls := "TrimmedMachine$Rows", name := "<init>", desc := "()V" } : Jvm.MethodName) "TrimmedMachine") ∈ tm_nw := tm_nin (List.mem_append_left _ (List.mem_of_getElem? (i := 74) (by decide +kernel))) rfl
theorem kw_75 : (Jvm.Cond.instanceMethod ({ cls := "TrimmedMachine$Rows", name := "<init>", desc := "()V" } : Jvm.MethodName)) ∈ tm_wa := tm_tb (List.mem_append_left _ (List.mem_of_getElem? (i := 75) (by decide +kernel))) rfl
theorem kw_76 : (Jvm.Cond.code ({ cls := "TrimmedMachine$Rows", name := "<init>", desc := "()V" } : Jvm.MethodName) prog_4_method_1_code (1 : Nat) (Option.none : Option Jvm.ClassFile.FieldType)) ∈ tm_wa := tm_tb (List.mem_append_left _ (List.mem_of_getElem? (i := 76) (rfl))) rfl
theorem kw_77 : (Jvm.Cond.methodLink "TrimmedMachine$Rows" (5 : Nat) ({ cls := "java/lang/Object", name := "<init>", desc := "()V" } : Jvm.MethodName)) ∈ tm_wa := tm_tb (List.mem_append_left _ (List.mem_of_getElem? (i := 77) (by decide +kernel))) rfl
theorem kw_86 : (Jvm.Cond.arrayClass Jvm.ClassFile.FieldType.long) ∈ tm_wa := tm_tb (List.mem_append_left _ (List.mem_of_getElem? (i := 86) (by decide +kernel))) rfl
theorem kw_87 : (Jvm.Cond.classLink "TrimmedMachine$Run" (18 : Nat) "TrimmedMachine$Closures") ∈ tm_wa := tm_tb (List.mem_append_left _ (List.mem_of_getElem? (i := 87) (by decide +kernel))) rfl
theorem kw_88 : (Jvm.Cond.instantiable "TrimmedMachine$Closures" (4 : Nat)) ∈ tm_wa := tm_tb (List.mem_append_left _ (List.mem_of_getElem? (i := 88) (by decide +kernel))) rfl
theorem kw_89 : (Jvm.Cond.methodLinkNest "TrimmedMachine$Run" (20 : Nat) ({ cls := "TrimmedMachine$Closures", name := "<init>", desc := "()V" } : Jvm.MethodName) "TrimmedMachine") ∈ tm_nw := tm_nin (List.mem_append_left _ (List.mem_of_getElem? (i := 89) (by decide +kernel))) rfl
theorem kw_90 : (Jvm.Cond.instanceMethod ({ cls := "TrimmedMachine$Closures", name := "<init>", desc := "()V" } : Jvm.MethodName)) ∈ tm_wa := tm_tb (List.mem_append_left _ (List.mem_of_getElem? (i := 90) (by decide +kernel))) rfl
theorem kw_91 : (Jvm.Cond.code ({ cls := "TrimmedMachine$Closures", name := "<init>", desc := "()V" } : Jvm.MethodName) prog_2_method_1_code (1 : Nat) (Option.none : Option Jvm.ClassFile.FieldType)) ∈ tm_wa := tm_tb (List.mem_append_left _ (List.mem_of_getElem? (i := 91) (rfl))) rfl
theorem kw_92 : (Jvm.Cond.methodLink "TrimmedMachine$Closures" (3 : Nat) ({ cls := "java/lang/Object", name := "<init>", desc := "()V" } : Jvm.MethodName)) ∈ tm_wa := tm_tb (List.mem_append_left _ (List.mem_of_getElem? (i := 92) (by decide +kernel))) rfl
theorem kw_93 : (Jvm.Cond.fieldLink "TrimmedMachine$Closures" (9 : Nat) "TrimmedMachine$Closures" "functions" "[I") ∈ tm_wa := tm_tb (List.mem_append_left _ (List.mem_of_getElem? (i := 93) (by decide +kernel))) rfl
theorem kw_110 : (Jvm.Cond.arrayClass Jvm.ClassFile.FieldType.boolean) ∈ tm_wa := tm_tb (List.mem_append_left _ (List.mem_of_getElem? (i := 110) (by decide +kernel))) rfl
theorem kw_570 : (Jvm.Cond.code ({ cls := "TrimmedMachineModel", name := "<init>", desc := "()V" } : Jvm.MethodName) prog_8_method_1_code (1 : Nat) (Option.none : Option Jvm.ClassFile.FieldType)) ∈ tm_wa := tm_tb (List.mem_append_right _ (List.mem_append_right _ (List.mem_append_left _ (List.mem_of_getElem? (i := 90) (rfl))))) rfl
theorem kw_571 : (Jvm.Cond.methodLink "TrimmedMachineModel" (1 : Nat) ({ cls := "java/lang/Object", name := "<init>", desc := "()V" } : Jvm.MethodName)) ∈ tm_wa := tm_tb (List.mem_append_right _ (List.mem_append_right _ (List.mem_append_left _ (List.mem_of_getElem? (i := 91) (by decide +kernel))))) rfl
abbrev y_EX_init : MethodName := { cls := "TrimmedMachine$Expressions", name := "<init>", desc := "()V" }
abbrev b_EX_init : ByteArray := prog_3_method_1_code
theorem kd_EX_init : tm_kd y_EX_init b_EX_init 1 none 0 := ⟨kw_2, kw_30, by decide, by decide, by decide +kernel⟩
abbrev wx_EX_init (cI cL cZ : ClassId) (h0 : Nat) (q : Nat → Nat) : va_W := [(h0, .inr (1, [.ref (q 0), .ref (q 1), .ref (q 2), .ref (q 3), .ref (q 4), .ref (q 5), .int 0])), ((q 0), .inl (cI, 100, .inl (fun _ => 0))), ((q 1), .inl (cI, 100, .inl (fun _ => 0))), ((q 2), .inl (cI, 100, .inl (fun _ => 0))), ((q 3), .inl (cI, 100, .inl (fun _ => 0))), ((q 4), .inl (cI, 100, .inl (fun _ => 0))), ((q 5), .inl (cI, 100, .inl (fun _ => 0)))]
theorem d_EX_init_0 : decode b_EX_init 0 = .ok (.aload_n 0, 1) := by decide +kernel
theorem d_EX_init_1 : decode b_EX_init 1 = .ok (.invokespecial 3, 3) := by decide +kernel
theorem d_EX_init_4 : decode b_EX_init 4 = .ok (.aload_n 0, 1) := by decide +kernel
theorem d_EX_init_5 : decode b_EX_init 5 = .ok (.bipush 100, 2) := by decide +kernel
theorem d_EX_init_7 : decode b_EX_init 7 = .ok (.newarray .int, 2) := by decide +kernel
theorem d_EX_init_9 : decode b_EX_init 9 = .ok (.putfield 9, 3) := by decide +kernel
theorem d_EX_init_12 : decode b_EX_init 12 = .ok (.aload_n 0, 1) := by decide +kernel
theorem d_EX_init_13 : decode b_EX_init 13 = .ok (.bipush 100, 2) := by decide +kernel
theorem d_EX_init_15 : decode b_EX_init 15 = .ok (.newarray .int, 2) := by decide +kernel
theorem d_EX_init_17 : decode b_EX_init 17 = .ok (.putfield 15, 3) := by decide +kernel
theorem d_EX_init_20 : decode b_EX_init 20 = .ok (.aload_n 0, 1) := by decide +kernel
theorem d_EX_init_21 : decode b_EX_init 21 = .ok (.bipush 100, 2) := by decide +kernel
theorem d_EX_init_23 : decode b_EX_init 23 = .ok (.newarray .int, 2) := by decide +kernel
theorem d_EX_init_25 : decode b_EX_init 25 = .ok (.putfield 18, 3) := by decide +kernel
theorem d_EX_init_28 : decode b_EX_init 28 = .ok (.aload_n 0, 1) := by decide +kernel
theorem d_EX_init_29 : decode b_EX_init 29 = .ok (.bipush 100, 2) := by decide +kernel
theorem d_EX_init_31 : decode b_EX_init 31 = .ok (.newarray .int, 2) := by decide +kernel
theorem d_EX_init_33 : decode b_EX_init 33 = .ok (.putfield 21, 3) := by decide +kernel
theorem d_EX_init_36 : decode b_EX_init 36 = .ok (.aload_n 0, 1) := by decide +kernel
theorem d_EX_init_37 : decode b_EX_init 37 = .ok (.bipush 100, 2) := by decide +kernel
theorem d_EX_init_39 : decode b_EX_init 39 = .ok (.newarray .int, 2) := by decide +kernel
theorem d_EX_init_41 : decode b_EX_init 41 = .ok (.putfield 24, 3) := by decide +kernel
theorem d_EX_init_44 : decode b_EX_init 44 = .ok (.aload_n 0, 1) := by decide +kernel
theorem d_EX_init_45 : decode b_EX_init 45 = .ok (.bipush 100, 2) := by decide +kernel
theorem d_EX_init_47 : decode b_EX_init 47 = .ok (.newarray .int, 2) := by decide +kernel
theorem d_EX_init_49 : decode b_EX_init 49 = .ok (.putfield 27, 3) := by decide +kernel
theorem d_EX_init_52 : decode b_EX_init 52 = .ok (.return_, 1) := by decide +kernel
set_option maxHeartbeats 4000000 in
set_option maxRecDepth 100000 in
theorem c_EX_init (l : Launch) (D : va_G) (cI cL cZ : ClassId) (h0 : Nat) (sz : Nat) : Met l y_EX_init (Cond.code y_EX_init b_EX_init 1 none :: tm_wa) ({ frames := 1, cells := 6, slots := 600, locals := 20 } : Room) (va_Pc [.ref h0] (tm_Pre D (tm_yC cI cL cZ) [(h0, .inr (1, [.null, .null, .null, .null, .null, .null, .int 0]))] sz)) (va_Qv (fun _ : Nat → Nat => True) (fun q t => tm_B D (tm_yC cI cL cZ) (va_A [(h0, .inr (1, [.null, .null, .null, .null, .null, .null, .int 0]))] sz) (wx_EX_init cI cL cZ h0 q) t) (va_A [(h0, .inr (1, [.null, .null, .null, .null, .null, .null, .int 0]))] sz)) 6 600 (va_A [(h0, .inr (1, [.null, .null, .null, .null, .null, .null, .int 0]))] sz) := by
  refine tm_of (Qc := fun A => va_Qv (fun _ : Nat → Nat => True) (fun q t => tm_B D (tm_yC cI cL cZ) A (wx_EX_init cI cL cZ h0 q) t) A) (by decide) (Nat.le_of_ble_eq_true rfl) ?_ sz
  intro pg eg sg mg bel met cg A ls X h hl hnm
  have hx := X.1.1
  have hb := X.1.2.1
  have hl : lv_has ls 1 [(0, .ref h0)] := hl
  refine lv_aload_n hx hb d_EX_init_0 rfl (lv_at hl 0 rfl) ?_
  refine tm_obj X kw_31 kw_24 kw_25 hl.1 d_EX_init_1 (by decide) (Nat.le_of_ble_eq_true rfl) ?_
  refine lv_aload_n hx hb d_EX_init_4 rfl (lv_at hl 0 rfl) ?_
  refine lv_bipush (v := 100) hx hb d_EX_init_5 (by decide) ?_
  refine tm_newI X h 0 rfl kw_65 100 (by decide) (by decide) (by decide) (by decide) (by decide) d_EX_init_7 (fun q7 H h => ?_)
  have h : tm_H D A sg [(h0, .inr (1, [.null, .null, .null, .null, .null, .null, .int 0])), (q7, .inl (cI, 100, .inl (fun _ => 0)))] _ _ := h
  refine tm_putF X h hnm uw_EX t_EX t_EX_ok n_EX 0 rfl rfl 0 (by decide) kw_32 rfl rfl rfl rfl rfl (Nat.le_of_ble_eq_true rfl) (ws' := [(h0, .inr (1, [.ref q7, .null, .null, .null, .null, .null, .int 0])), (q7, .inl (cI, 100, .inl (fun _ => 0)))]) rfl d_EX_init_9 (fun H locs h => ?_)
  refine lv_aload_n hx hb d_EX_init_12 rfl (lv_at hl 0 rfl) ?_
  refine lv_bipush (v := 100) hx hb d_EX_init_13 (by decide) ?_
  refine tm_newI X h 0 rfl kw_65 100 (by decide) (by decide) (by decide) (by decide) (by decide) d_EX_init_15 (fun q15 H h => ?_)
  have h : tm_H D A sg [(h0, .inr (1, [.ref q7, .null, .null, .null, .null, .null, .int 0])), (q7, .inl (cI, 100, .inl (fun _ => 0))), (q15, .inl (cI, 100, .inl (fun _ => 0)))] _ _ := h
  refine tm_putF X h hnm uw_EX t_EX t_EX_ok n_EX 0 rfl rfl 1 (by decide) kw_35 rfl rfl rfl rfl rfl (Nat.le_of_ble_eq_true rfl) (ws' := [(h0, .inr (1, [.ref q7, .ref q15, .null, .null, .null, .null, .int 0])), (q7, .inl (cI, 100, .inl (fun _ => 0))), (q15, .inl (cI, 100, .inl (fun _ => 0)))]) rfl d_EX_init_17 (fun H locs h => ?_)
  refine lv_aload_n hx hb d_EX_init_20 rfl (lv_at hl 0 rfl) ?_
  refine lv_bipush (v := 100) hx hb d_EX_init_21 (by decide) ?_
  refine tm_newI X h 0 rfl kw_65 100 (by decide) (by decide) (by decide) (by decide) (by decide) d_EX_init_23 (fun q23 H h => ?_)
  have h : tm_H D A sg [(h0, .inr (1, [.ref q7, .ref q15, .null, .null, .null, .null, .int 0])), (q7, .inl (cI, 100, .inl (fun _ => 0))), (q15, .inl (cI, 100, .inl (fun _ => 0))), (q23, .inl (cI, 100, .inl (fun _ => 0)))] _ _ := h
  refine tm_putF X h hnm uw_EX t_EX t_EX_ok n_EX 0 rfl rfl 2 (by decide) kw_38 rfl rfl rfl rfl rfl (Nat.le_of_ble_eq_true rfl) (ws' := [(h0, .inr (1, [.ref q7, .ref q15, .ref q23, .null, .null, .null, .int 0])), (q7, .inl (cI, 100, .inl (fun _ => 0))), (q15, .inl (cI, 100, .inl (fun _ => 0))), (q23, .inl (cI, 100, .inl (fun _ => 0)))]) rfl d_EX_init_25 (fun H locs h => ?_)
  refine lv_aload_n hx hb d_EX_init_28 rfl (lv_at hl 0 rfl) ?_
  refine lv_bipush (v := 100) hx hb d_EX_init_29 (by decide) ?_
  refine tm_newI X h 0 rfl kw_65 100 (by decide) (by decide) (by decide) (by decide) (by decide) d_EX_init_31 (fun q31 H h => ?_)
  have h : tm_H D A sg [(h0, .inr (1, [.ref q7, .ref q15, .ref q23, .null, .null, .null, .int 0])), (q7, .inl (cI, 100, .inl (fun _ => 0))), (q15, .inl (cI, 100, .inl (fun _ => 0))), (q23, .inl (cI, 100, .inl (fun _ => 0))), (q31, .inl (cI, 100, .inl (fun _ => 0)))] _ _ := h
  refine tm_putF X h hnm uw_EX t_EX t_EX_ok n_EX 0 rfl rfl 3 (by decide) kw_41 rfl rfl rfl rfl rfl (Nat.le_of_ble_eq_true rfl) (ws' := [(h0, .inr (1, [.ref q7, .ref q15, .ref q23, .ref q31, .null, .null, .int 0])), (q7, .inl (cI, 100, .inl (fun _ => 0))), (q15, .inl (cI, 100, .inl (fun _ => 0))), (q23, .inl (cI, 100, .inl (fun _ => 0))), (q31, .inl (cI, 100, .inl (fun _ => 0)))]) rfl d_EX_init_33 (fun H locs h => ?_)
  refine lv_aload_n hx hb d_EX_init_36 rfl (lv_at hl 0 rfl) ?_
  refine lv_bipush (v := 100) hx hb d_EX_init_37 (by decide) ?_
  refine tm_newI X h 0 rfl kw_65 100 (by decide) (by decide) (by decide) (by decide) (by decide) d_EX_init_39 (fun q39 H h => ?_)
  have h : tm_H D A sg [(h0, .inr (1, [.ref q7, .ref q15, .ref q23, .ref q31, .null, .null, .int 0])), (q7, .inl (cI, 100, .inl (fun _ => 0))), (q15, .inl (cI, 100, .inl (fun _ => 0))), (q23, .inl (cI, 100, .inl (fun _ => 0))), (q31, .inl (cI, 100, .inl (fun _ => 0))), (q39, .inl (cI, 100, .inl (fun _ => 0)))] _ _ := h
  refine tm_putF X h hnm uw_EX t_EX t_EX_ok n_EX 0 rfl rfl 4 (by decide) kw_44 rfl rfl rfl rfl rfl (Nat.le_of_ble_eq_true rfl) (ws' := [(h0, .inr (1, [.ref q7, .ref q15, .ref q23, .ref q31, .ref q39, .null, .int 0])), (q7, .inl (cI, 100, .inl (fun _ => 0))), (q15, .inl (cI, 100, .inl (fun _ => 0))), (q23, .inl (cI, 100, .inl (fun _ => 0))), (q31, .inl (cI, 100, .inl (fun _ => 0))), (q39, .inl (cI, 100, .inl (fun _ => 0)))]) rfl d_EX_init_41 (fun H locs h => ?_)
  refine lv_aload_n hx hb d_EX_init_44 rfl (lv_at hl 0 rfl) ?_
  refine lv_bipush (v := 100) hx hb d_EX_init_45 (by decide) ?_
  refine tm_newI X h 0 rfl kw_65 100 (by decide) (by decide) (by decide) (by decide) (by decide) d_EX_init_47 (fun q47 H h => ?_)
  have h : tm_H D A sg [(h0, .inr (1, [.ref q7, .ref q15, .ref q23, .ref q31, .ref q39, .null, .int 0])), (q7, .inl (cI, 100, .inl (fun _ => 0))), (q15, .inl (cI, 100, .inl (fun _ => 0))), (q23, .inl (cI, 100, .inl (fun _ => 0))), (q31, .inl (cI, 100, .inl (fun _ => 0))), (q39, .inl (cI, 100, .inl (fun _ => 0))), (q47, .inl (cI, 100, .inl (fun _ => 0)))] _ _ := h
  refine tm_putF X h hnm uw_EX t_EX t_EX_ok n_EX 0 rfl rfl 5 (by decide) kw_47 rfl rfl rfl rfl rfl (Nat.le_of_ble_eq_true rfl) (ws' := [(h0, .inr (1, [.ref q7, .ref q15, .ref q23, .ref q31, .ref q39, .ref q47, .int 0])), (q7, .inl (cI, 100, .inl (fun _ => 0))), (q15, .inl (cI, 100, .inl (fun _ => 0))), (q23, .inl (cI, 100, .inl (fun _ => 0))), (q31, .inl (cI, 100, .inl (fun _ => 0))), (q39, .inl (cI, 100, .inl (fun _ => 0))), (q47, .inl (cI, 100, .inl (fun _ => 0)))]) rfl d_EX_init_49 (fun H locs h => ?_)
  exact tm_vretJ (S := Nat → Nat) (w1 := wx_EX_init cI cL cZ h0) (fun k => [q7, q15, q23, q31, q39, q47].getD k 0) X h d_EX_init_52
abbrev y_RW_init : MethodName := { cls := "TrimmedMachine$Rows", name := "<init>", desc := "()V" }
abbrev b_RW_init : ByteArray := prog_4_method_1_code
theorem kd_RW_init : tm_kd y_RW_init b_RW_init 1 none 0 := ⟨kw_4, kw_76, by decide, by decide, by decide +kernel⟩
abbrev wx_RW_init (cI cL cZ : ClassId) (h0 : Nat) (q : Nat → Nat) : va_W := [(h0, .inr (3, [.ref (q 0), .ref (q 1)])), ((q 0), .inl (cI, 241, .inl (fun _ => 0))), ((q 1), .inl (cL, 1928, .inr (.inl (fun _ => 0))))]
theorem d_RW_init_0 : decode b_RW_init 0 = .ok (.aload_n 0, 1) := by decide +kernel
theorem d_RW_init_1 : decode b_RW_init 1 = .ok (.invokespecial 5, 3) := by decide +kernel
theorem d_RW_init_4 : decode b_RW_init 4 = .ok (.aload_n 0, 1) := by decide +kernel
theorem d_RW_init_5 : decode b_RW_init 5 = .ok (.sipush 241, 3) := by decide +kernel
theorem d_RW_init_8 : decode b_RW_init 8 = .ok (.newarray .int, 2) := by decide +kernel
theorem d_RW_init_10 : decode b_RW_init 10 = .ok (.putfield 11, 3) := by decide +kernel
theorem d_RW_init_13 : decode b_RW_init 13 = .ok (.aload_n 0, 1) := by decide +kernel
theorem d_RW_init_14 : decode b_RW_init 14 = .ok (.sipush 1928, 3) := by decide +kernel
theorem d_RW_init_17 : decode b_RW_init 17 = .ok (.newarray .long, 2) := by decide +kernel
theorem d_RW_init_19 : decode b_RW_init 19 = .ok (.putfield 15, 3) := by decide +kernel
theorem d_RW_init_22 : decode b_RW_init 22 = .ok (.return_, 1) := by decide +kernel
set_option maxHeartbeats 4000000 in
set_option maxRecDepth 100000 in
theorem c_RW_init (l : Launch) (D : va_G) (cI cL cZ : ClassId) (h0 : Nat) (sz : Nat) : Met l y_RW_init (Cond.code y_RW_init b_RW_init 1 none :: tm_wa) ({ frames := 1, cells := 2, slots := 2169, locals := 20 } : Room) (va_Pc [.ref h0] (tm_Pre D (tm_yC cI cL cZ) [(h0, .inr (3, [.null, .null]))] sz)) (va_Qv (fun _ : Nat → Nat => True) (fun q t => tm_B D (tm_yC cI cL cZ) (va_A [(h0, .inr (3, [.null, .null]))] sz) (wx_RW_init cI cL cZ h0 q) t) (va_A [(h0, .inr (3, [.null, .null]))] sz)) 2 2169 (va_A [(h0, .inr (3, [.null, .null]))] sz) := by
  refine tm_of (Qc := fun A => va_Qv (fun _ : Nat → Nat => True) (fun q t => tm_B D (tm_yC cI cL cZ) A (wx_RW_init cI cL cZ h0 q) t) A) (by decide) (Nat.le_of_ble_eq_true rfl) ?_ sz
  intro pg eg sg mg bel met cg A ls X h hl hnm
  have hx := X.1.1
  have hb := X.1.2.1
  have hl : lv_has ls 1 [(0, .ref h0)] := hl
  refine lv_aload_n hx hb d_RW_init_0 rfl (lv_at hl 0 rfl) ?_
  refine tm_obj X kw_77 kw_24 kw_25 hl.1 d_RW_init_1 (by decide) (Nat.le_of_ble_eq_true rfl) ?_
  refine lv_aload_n hx hb d_RW_init_4 rfl (lv_at hl 0 rfl) ?_
  refine lv_sipush (v := 241) hx hb d_RW_init_5 (by decide) ?_
  refine tm_newI X h 0 rfl kw_65 241 (by decide) (by decide) (by decide) (by decide) (by decide) d_RW_init_8 (fun q8 H h => ?_)
  have h : tm_H D A sg [(h0, .inr (3, [.null, .null])), (q8, .inl (cI, 241, .inl (fun _ => 0)))] _ _ := h
  refine tm_putF X h hnm uw_RW t_RW t_RW_ok n_RW 0 rfl rfl 0 (by decide) kw_78 rfl rfl rfl rfl rfl (Nat.le_of_ble_eq_true rfl) (ws' := [(h0, .inr (3, [.ref q8, .null])), (q8, .inl (cI, 241, .inl (fun _ => 0)))]) rfl d_RW_init_10 (fun H locs h => ?_)
  refine lv_aload_n hx hb d_RW_init_13 rfl (lv_at hl 0 rfl) ?_
  refine lv_sipush (v := 1928) hx hb d_RW_init_14 (by decide) ?_
  refine tm_newL X h 1 rfl kw_86 1928 (by decide) (by decide) (by decide) (by decide) (by decide) d_RW_init_17 (fun q17 H h => ?_)
  have h : tm_H D A sg [(h0, .inr (3, [.ref q8, .null])), (q8, .inl (cI, 241, .inl (fun _ => 0))), (q17, .inl (cL, 1928, .inr (.inl (fun _ => 0))))] _ _ := h
  refine tm_putF X h hnm uw_RW t_RW t_RW_ok n_RW 0 rfl rfl 1 (by decide) kw_80 rfl rfl rfl rfl rfl (Nat.le_of_ble_eq_true rfl) (ws' := [(h0, .inr (3, [.ref q8, .ref q17])), (q8, .inl (cI, 241, .inl (fun _ => 0))), (q17, .inl (cL, 1928, .inr (.inl (fun _ => 0))))]) rfl d_RW_init_19 (fun H locs h => ?_)
  exact tm_vretJ (S := Nat → Nat) (w1 := wx_RW_init cI cL cZ h0) (fun k => [q8, q17].getD k 0) X h d_RW_init_22
abbrev y_CL_init : MethodName := { cls := "TrimmedMachine$Closures", name := "<init>", desc := "()V" }
abbrev b_CL_init : ByteArray := prog_2_method_1_code
theorem kd_CL_init : tm_kd y_CL_init b_CL_init 1 none 0 := ⟨kw_5, kw_91, by decide, by decide, by decide +kernel⟩
abbrev wx_CL_init (cI cL cZ : ClassId) (h0 : Nat) (q : Nat → Nat) : va_W := [(h0, .inr (4, [.ref (q 0), .ref (q 1), .ref (q 2), .int 0])), ((q 0), .inl (cI, 120, .inl (fun _ => 0))), ((q 1), .inl (cZ, 120, .inl (fun _ => 0))), ((q 2), .inl (cI, 120, .inl (fun _ => 0)))]
theorem d_CL_init_0 : decode b_CL_init 0 = .ok (.aload_n 0, 1) := by decide +kernel
theorem d_CL_init_1 : decode b_CL_init 1 = .ok (.invokespecial 3, 3) := by decide +kernel
theorem d_CL_init_4 : decode b_CL_init 4 = .ok (.aload_n 0, 1) := by decide +kernel
theorem d_CL_init_5 : decode b_CL_init 5 = .ok (.bipush 120, 2) := by decide +kernel
theorem d_CL_init_7 : decode b_CL_init 7 = .ok (.newarray .int, 2) := by decide +kernel
theorem d_CL_init_9 : decode b_CL_init 9 = .ok (.putfield 9, 3) := by decide +kernel
theorem d_CL_init_12 : decode b_CL_init 12 = .ok (.aload_n 0, 1) := by decide +kernel
theorem d_CL_init_13 : decode b_CL_init 13 = .ok (.bipush 120, 2) := by decide +kernel
theorem d_CL_init_15 : decode b_CL_init 15 = .ok (.newarray .boolean, 2) := by decide +kernel
theorem d_CL_init_17 : decode b_CL_init 17 = .ok (.putfield 15, 3) := by decide +kernel
theorem d_CL_init_20 : decode b_CL_init 20 = .ok (.aload_n 0, 1) := by decide +kernel
theorem d_CL_init_21 : decode b_CL_init 21 = .ok (.bipush 120, 2) := by decide +kernel
theorem d_CL_init_23 : decode b_CL_init 23 = .ok (.newarray .int, 2) := by decide +kernel
theorem d_CL_init_25 : decode b_CL_init 25 = .ok (.putfield 19, 3) := by decide +kernel
theorem d_CL_init_28 : decode b_CL_init 28 = .ok (.return_, 1) := by decide +kernel
set_option maxHeartbeats 4000000 in
set_option maxRecDepth 100000 in
theorem c_CL_init (l : Launch) (D : va_G) (cI cL cZ : ClassId) (h0 : Nat) (sz : Nat) : Met l y_CL_init (Cond.code y_CL_init b_CL_init 1 none :: tm_wa) ({ frames := 1, cells := 3, slots := 360, locals := 20 } : Room) (va_Pc [.ref h0] (tm_Pre D (tm_yC cI cL cZ) [(h0, .inr (4, [.null, .null, .null, .int 0]))] sz)) (va_Qv (fun _ : Nat → Nat => True) (fun q t => tm_B D (tm_yC cI cL cZ) (va_A [(h0, .inr (4, [.null, .null, .null, .int 0]))] sz) (wx_CL_init cI cL cZ h0 q) t) (va_A [(h0, .inr (4, [.null, .null, .null, .int 0]))] sz)) 3 360 (va_A [(h0, .inr (4, [.null, .null, .null, .int 0]))] sz) := by
  refine tm_of (Qc := fun A => va_Qv (fun _ : Nat → Nat => True) (fun q t => tm_B D (tm_yC cI cL cZ) A (wx_CL_init cI cL cZ h0 q) t) A) (by decide) (Nat.le_of_ble_eq_true rfl) ?_ sz
  intro pg eg sg mg bel met cg A ls X h hl hnm
  have hx := X.1.1
  have hb := X.1.2.1
  have hl : lv_has ls 1 [(0, .ref h0)] := hl
  refine lv_aload_n hx hb d_CL_init_0 rfl (lv_at hl 0 rfl) ?_
  refine tm_obj X kw_92 kw_24 kw_25 hl.1 d_CL_init_1 (by decide) (Nat.le_of_ble_eq_true rfl) ?_
  refine lv_aload_n hx hb d_CL_init_4 rfl (lv_at hl 0 rfl) ?_
  refine lv_bipush (v := 120) hx hb d_CL_init_5 (by decide) ?_
  refine tm_newI X h 0 rfl kw_65 120 (by decide) (by decide) (by decide) (by decide) (by decide) d_CL_init_7 (fun q7 H h => ?_)
  have h : tm_H D A sg [(h0, .inr (4, [.null, .null, .null, .int 0])), (q7, .inl (cI, 120, .inl (fun _ => 0)))] _ _ := h
  refine tm_putF X h hnm uw_CL t_CL t_CL_ok n_CL 0 rfl rfl 0 (by decide) kw_93 rfl rfl rfl rfl rfl (Nat.le_of_ble_eq_true rfl) (ws' := [(h0, .inr (4, [.ref q7, .null, .null, .int 0])), (q7, .inl (cI, 120, .inl (fun _ => 0)))]) rfl d_CL_init_9 (fun H locs h => ?_)
  refine lv_aload_n hx hb d_CL_init_12 rfl (lv_at hl 0 rfl) ?_
  refine lv_bipush (v := 120) hx hb d_CL_init_13 (by decide) ?_
  refine tm_newZ X h 2 rfl kw_110 120 (by decide) (by decide) (by decide) (by decide) (by decide) d_CL_init_15 (fun q15 H h => ?_)
  have h : tm_H D A sg [(h0, .inr (4, [.ref q7, .null, .null, .int 0])), (q7, .inl (cI, 120, .inl (fun _ => 0))), (q15, .inl (cZ, 120, .inl (fun _ => 0)))] _ _ := h
  refine tm_putF X h hnm uw_CL t_CL t_CL_ok n_CL 0 rfl rfl 1 (by decide) kw_95 rfl rfl rfl rfl rfl (Nat.le_of_ble_eq_true rfl) (ws' := [(h0, .inr (4, [.ref q7, .ref q15, .null, .int 0])), (q7, .inl (cI, 120, .inl (fun _ => 0))), (q15, .inl (cZ, 120, .inl (fun _ => 0)))]) rfl d_CL_init_17 (fun H locs h => ?_)
  refine lv_aload_n hx hb d_CL_init_20 rfl (lv_at hl 0 rfl) ?_
  refine lv_bipush (v := 120) hx hb d_CL_init_21 (by decide) ?_
  refine tm_newI X h 0 rfl kw_65 120 (by decide) (by decide) (by decide) (by decide) (by decide) d_CL_init_23 (fun q23 H h => ?_)
  have h : tm_H D A sg [(h0, .inr (4, [.ref q7, .ref q15, .null, .int 0])), (q7, .inl (cI, 120, .inl (fun _ => 0))), (q15, .inl (cZ, 120, .inl (fun _ => 0))), (q23, .inl (cI, 120, .inl (fun _ => 0)))] _ _ := h
  refine tm_putF X h hnm uw_CL t_CL t_CL_ok n_CL 0 rfl rfl 2 (by decide) kw_96 rfl rfl rfl rfl rfl (Nat.le_of_ble_eq_true rfl) (ws' := [(h0, .inr (4, [.ref q7, .ref q15, .ref q23, .int 0])), (q7, .inl (cI, 120, .inl (fun _ => 0))), (q15, .inl (cZ, 120, .inl (fun _ => 0))), (q23, .inl (cI, 120, .inl (fun _ => 0)))]) rfl d_CL_init_25 (fun H locs h => ?_)
  exact tm_vretJ (S := Nat → Nat) (w1 := wx_CL_init cI cL cZ h0) (fun k => [q7, q15, q23].getD k 0) X h d_CL_init_28
abbrev y_RN_init : MethodName := { cls := "TrimmedMachine$Run", name := "<init>", desc := "(LTrimmedMachine$Expressions;)V" }
abbrev b_RN_init : ByteArray := prog_5_method_1_code
theorem kd_RN_init : tm_kd y_RN_init b_RN_init 2 none 1 := ⟨kw_3, kw_70, by decide, by decide, by decide +kernel⟩
abbrev wx_RN_init (cI cL cZ : ClassId) (h0 x0 : Nat) (q : Nat → Nat) : va_W := [(h0, .inr (2, [.ref x0, .ref (q 0), .ref (q 3), .ref (q 7), .ref (q 8), .int 0, .int 0, .int 0, .int 0, .int 0, .int 0, .int 0, .int 0, .int 0, .int 0])), ((q 0), .inr (3, [.ref (q 1), .ref (q 2)])), ((q 1), .inl (cI, 241, .inl (fun _ => 0))), ((q 2), .inl (cL, 1928, .inr (.inl (fun _ => 0)))), ((q 3), .inr (4, [.ref (q 4), .ref (q 5), .ref (q 6), .int 0])), ((q 4), .inl (cI, 120, .inl (fun _ => 0))), ((q 5), .inl (cZ, 120, .inl (fun _ => 0))), ((q 6), .inl (cI, 120, .inl (fun _ => 0))), ((q 7), .inl (cI, 120, .inl (fun _ => 0))), ((q 8), .inl (cI, 120, .inl (fun _ => 0)))]
theorem d_RN_init_0 : decode b_RN_init 0 = .ok (.aload_n 0, 1) := by decide +kernel
theorem d_RN_init_1 : decode b_RN_init 1 = .ok (.invokespecial 3, 3) := by decide +kernel
theorem d_RN_init_4 : decode b_RN_init 4 = .ok (.aload_n 0, 1) := by decide +kernel
theorem d_RN_init_5 : decode b_RN_init 5 = .ok (.new 9, 3) := by decide +kernel
theorem d_RN_init_8 : decode b_RN_init 8 = .ok (.dup, 1) := by decide +kernel
theorem d_RN_init_9 : decode b_RN_init 9 = .ok (.invokespecial 11, 3) := by decide +kernel
theorem d_RN_init_12 : decode b_RN_init 12 = .ok (.putfield 12, 3) := by decide +kernel
theorem d_RN_init_15 : decode b_RN_init 15 = .ok (.aload_n 0, 1) := by decide +kernel
theorem d_RN_init_16 : decode b_RN_init 16 = .ok (.new 18, 3) := by decide +kernel
theorem d_RN_init_19 : decode b_RN_init 19 = .ok (.dup, 1) := by decide +kernel
theorem d_RN_init_20 : decode b_RN_init 20 = .ok (.invokespecial 20, 3) := by decide +kernel
theorem d_RN_init_23 : decode b_RN_init 23 = .ok (.putfield 21, 3) := by decide +kernel
theorem d_RN_init_26 : decode b_RN_init 26 = .ok (.aload_n 0, 1) := by decide +kernel
theorem d_RN_init_27 : decode b_RN_init 27 = .ok (.bipush 120, 2) := by decide +kernel
theorem d_RN_init_29 : decode b_RN_init 29 = .ok (.newarray .int, 2) := by decide +kernel
theorem d_RN_init_31 : decode b_RN_init 31 = .ok (.putfield 25, 3) := by decide +kernel
theorem d_RN_init_34 : decode b_RN_init 34 = .ok (.aload_n 0, 1) := by decide +kernel
theorem d_RN_init_35 : decode b_RN_init 35 = .ok (.bipush 120, 2) := by decide +kernel
theorem d_RN_init_37 : decode b_RN_init 37 = .ok (.newarray .int, 2) := by decide +kernel
theorem d_RN_init_39 : decode b_RN_init 39 = .ok (.putfield 29, 3) := by decide +kernel
theorem d_RN_init_42 : decode b_RN_init 42 = .ok (.aload_n 0, 1) := by decide +kernel
theorem d_RN_init_43 : decode b_RN_init 43 = .ok (.iconst 0, 1) := by decide +kernel
theorem d_RN_init_44 : decode b_RN_init 44 = .ok (.putfield 32, 3) := by decide +kernel
theorem d_RN_init_47 : decode b_RN_init 47 = .ok (.aload_n 0, 1) := by decide +kernel
theorem d_RN_init_48 : decode b_RN_init 48 = .ok (.aload_n 1, 1) := by decide +kernel
theorem d_RN_init_49 : decode b_RN_init 49 = .ok (.putfield 36, 3) := by decide +kernel
theorem d_RN_init_52 : decode b_RN_init 52 = .ok (.return_, 1) := by decide +kernel
set_option maxHeartbeats 4000000 in
set_option maxRecDepth 100000 in
theorem c_RN_init (l : Launch) (D : va_G) (cI cL cZ : ClassId) (h0 x0 : Nat) (sz : Nat) : Met l y_RN_init (Cond.code y_RN_init b_RN_init 2 none :: tm_wa) ({ frames := 2, cells := 9, slots := 2775, locals := 40 } : Room) (va_Pc [.ref h0, .ref x0] (tm_Pre D (tm_yC cI cL cZ) [(h0, .inr (2, [.null, .null, .null, .null, .null, .int 0, .int 0, .int 0, .int 0, .int 0, .int 0, .int 0, .int 0, .int 0, .int 0]))] sz)) (va_Qv (fun _ : Nat → Nat => True) (fun q t => tm_B D (tm_yC cI cL cZ) (va_A [(h0, .inr (2, [.null, .null, .null, .null, .null, .int 0, .int 0, .int 0, .int 0, .int 0, .int 0, .int 0, .int 0, .int 0, .int 0]))] sz) (wx_RN_init cI cL cZ h0 x0 q) t) (va_A [(h0, .inr (2, [.null, .null, .null, .null, .null, .int 0, .int 0, .int 0, .int 0, .int 0, .int 0, .int 0, .int 0, .int 0, .int 0]))] sz)) 9 2775 (va_A [(h0, .inr (2, [.null, .null, .null, .null, .null, .int 0, .int 0, .int 0, .int 0, .int 0, .int 0, .int 0, .int 0, .int 0, .int 0]))] sz) := by
  refine tm_of (Qc := fun A => va_Qv (fun _ : Nat → Nat => True) (fun q t => tm_B D (tm_yC cI cL cZ) A (wx_RN_init cI cL cZ h0 x0 q) t) A) (by decide) (Nat.le_of_ble_eq_true rfl) ?_ sz
  intro pg eg sg mg bel met cg A ls X h hl hnm
  have hx := X.1.1
  have hb := X.1.2.1
  have hl : lv_has ls 2 [(0, .ref h0), (1, .ref x0)] := hl
  refine lv_aload_n hx hb d_RN_init_0 rfl (lv_at hl 0 rfl) ?_
  refine tm_obj X kw_71 kw_24 kw_25 hl.1 d_RN_init_1 (by decide) (Nat.le_of_ble_eq_true rfl) ?_
  refine lv_aload_n hx hb d_RN_init_4 rfl (lv_at hl 0 rfl) ?_
  refine tm_new X h uw_RW t_RW t_RW_ok kw_72 kw_73 kw_4 (ci := 3) (fs := [.null, .null]) rfl (by decide) (by decide) (by decide) d_RN_init_5 (fun q5 H h => ?_)
  have h : tm_H D A sg [(h0, .inr (2, [.null, .null, .null, .null, .null, .int 0, .int 0, .int 0, .int 0, .int 0, .int 0, .int 0, .int 0, .int 0, .int 0])), (q5, .inr (3, [.null, .null]))] _ _ := h
  refine lv_dup hx hb d_RN_init_8 rfl ?_
  refine tm_jn (wc := [(q5, .inr (3, [.null, .null]))]) (wr := [(h0, .inr (2, [.null, .null, .null, .null, .null, .int 0, .int 0, .int 0, .int 0, .int 0, .int 0, .int 0, .int 0, .int 0, .int 0]))]) X h [1] [0] rfl rfl (by decide) (by decide) (tm_rIN X (tm_cut h [1] rfl (by decide) rfl) (c_RW_init l D cI cL cZ q5  _) kd_RW_init kw_75 rfl kw_74 rfl rfl ⟨by decide, by decide⟩ rfl hl.1 rfl (Nat.le_of_ble_eq_true rfl) d_RN_init_9 ⟨by decide, by decide⟩) (fun g9 H locs _ h => ?_)
  have h : tm_H D A sg [(h0, .inr (2, [.null, .null, .null, .null, .null, .int 0, .int 0, .int 0, .int 0, .int 0, .int 0, .int 0, .int 0, .int 0, .int 0])), (q5, .inr (3, [.ref (g9 0), .ref (g9 1)])), ((g9 0), .inl (cI, 241, .inl (fun _ => 0))), ((g9 1), .inl (cL, 1928, .inr (.inl (fun _ => 0))))] _ _ := h
  refine tm_putF X h hnm uw_RN t_RN t_RN_ok n_RN 0 rfl rfl 1 (by decide) kw_112 rfl rfl rfl rfl rfl (Nat.le_of_ble_eq_true rfl) (ws' := [(h0, .inr (2, [.null, .ref q5, .null, .null, .null, .int 0, .int 0, .int 0, .int 0, .int 0, .int 0, .int 0, .int 0, .int 0, .int 0])), (q5, .inr (3, [.ref (g9 0), .ref (g9 1)])), ((g9 0), .inl (cI, 241, .inl (fun _ => 0))), ((g9 1), .inl (cL, 1928, .inr (.inl (fun _ => 0))))]) rfl d_RN_init_12 (fun H locs h => ?_)
  refine lv_aload_n hx hb d_RN_init_15 rfl (lv_at hl 0 rfl) ?_
  refine tm_new X h uw_CL t_CL t_CL_ok kw_87 kw_88 kw_5 (ci := 4) (fs := [.null, .null, .null, .int 0]) rfl (by decide) (by decide) (by decide) d_RN_init_16 (fun q16 H h => ?_)
  have h : tm_H D A sg [(h0, .inr (2, [.null, .ref q5, .null, .null, .null, .int 0, .int 0, .int 0, .int 0, .int 0, .int 0, .int 0, .int 0, .int 0, .int 0])), (q5, .inr (3, [.ref (g9 0), .ref (g9 1)])), ((g9 0), .inl (cI, 241, .inl (fun _ => 0))), ((g9 1), .inl (cL, 1928, .inr (.inl (fun _ => 0)))), (q16, .inr (4, [.null, .null, .null, .int 0]))] _ _ := h
  refine lv_dup hx hb d_RN_init_19 rfl ?_
  refine tm_jn (wc := [(q16, .inr (4, [.null, .null, .null, .int 0]))]) (wr := [(h0, .inr (2, [.null, .ref q5, .null, .null, .null, .int 0, .int 0, .int 0, .int 0, .int 0, .int 0, .int 0, .int 0, .int 0, .int 0])), (q5, .inr (3, [.ref (g9 0), .ref (g9 1)])), ((g9 0), .inl (cI, 241, .inl (fun _ => 0))), ((g9 1), .inl (cL, 1928, .inr (.inl (fun _ => 0))))]) X h [4] [0, 1, 2, 3] rfl rfl (by decide) (by decide) (tm_rIN X (tm_cut h [4] rfl (by decide) rfl) (c_CL_init l D cI cL cZ q16  _) kd_CL_init kw_90 rfl kw_89 rfl rfl ⟨by decide, by decide⟩ rfl hl.1 rfl (Nat.le_of_ble_eq_true rfl) d_RN_init_20 ⟨by decide, by decide⟩) (fun g20 H locs _ h => ?_)
  have h : tm_H D A sg [(h0, .inr (2, [.null, .ref q5, .null, .null, .null, .int 0, .int 0, .int 0, .int 0, .int 0, .int 0, .int 0, .int 0, .int 0, .int 0])), (q5, .inr (3, [.ref (g9 0), .ref (g9 1)])), ((g9 0), .inl (cI, 241, .inl (fun _ => 0))), ((g9 1), .inl (cL, 1928, .inr (.inl (fun _ => 0)))), (q16, .inr (4, [.ref (g20 0), .ref (g20 1), .ref (g20 2), .int 0])), ((g20 0), .inl (cI, 120, .inl (fun _ => 0))), ((g20 1), .inl (cZ, 120, .inl (fun _ => 0))), ((g20 2), .inl (cI, 120, .inl (fun _ => 0)))] _ _ := h
  refine tm_putF X h hnm uw_RN t_RN t_RN_ok n_RN 0 rfl rfl 2 (by decide) kw_113 rfl rfl rfl rfl rfl (Nat.le_of_ble_eq_true rfl) (ws' := [(h0, .inr (2, [.null, .ref q5, .ref q16, .null, .null, .int 0, .int 0, .int 0, .int 0, .int 0, .int 0, .int 0, .int 0, .int 0, .int 0])), (q5, .inr (3, [.ref (g9 0), .ref (g9 1)])), ((g9 0), .inl (cI, 241, .inl (fun _ => 0))), ((g9 1), .inl (cL, 1928, .inr (.inl (fun _ => 0)))), (q16, .inr (4, [.ref (g20 0), .ref (g20 1), .ref (g20 2), .int 0])), ((g20 0), .inl (cI, 120, .inl (fun _ => 0))), ((g20 1), .inl (cZ, 120, .inl (fun _ => 0))), ((g20 2), .inl (cI, 120, .inl (fun _ => 0)))]) rfl d_RN_init_23 (fun H locs h => ?_)
  refine lv_aload_n hx hb d_RN_init_26 rfl (lv_at hl 0 rfl) ?_
  refine lv_bipush (v := 120) hx hb d_RN_init_27 (by decide) ?_
  refine tm_newI X h 0 rfl kw_65 120 (by decide) (by decide) (by decide) (by decide) (by decide) d_RN_init_29 (fun q29 H h => ?_)
  have h : tm_H D A sg [(h0, .inr (2, [.null, .ref q5, .ref q16, .null, .null, .int 0, .int 0, .int 0, .int 0, .int 0, .int 0, .int 0, .int 0, .int 0, .int 0])), (q5, .inr (3, [.ref (g9 0), .ref (g9 1)])), ((g9 0), .inl (cI, 241, .inl (fun _ => 0))), ((g9 1), .inl (cL, 1928, .inr (.inl (fun _ => 0)))), (q16, .inr (4, [.ref (g20 0), .ref (g20 1), .ref (g20 2), .int 0])), ((g20 0), .inl (cI, 120, .inl (fun _ => 0))), ((g20 1), .inl (cZ, 120, .inl (fun _ => 0))), ((g20 2), .inl (cI, 120, .inl (fun _ => 0))), (q29, .inl (cI, 120, .inl (fun _ => 0)))] _ _ := h
  refine tm_putF X h hnm uw_RN t_RN t_RN_ok n_RN 0 rfl rfl 3 (by decide) kw_115 rfl rfl rfl rfl rfl (Nat.le_of_ble_eq_true rfl) (ws' := [(h0, .inr (2, [.null, .ref q5, .ref q16, .ref q29, .null, .int 0, .int 0, .int 0, .int 0, .int 0, .int 0, .int 0, .int 0, .int 0, .int 0])), (q5, .inr (3, [.ref (g9 0), .ref (g9 1)])), ((g9 0), .inl (cI, 241, .inl (fun _ => 0))), ((g9 1), .inl (cL, 1928, .inr (.inl (fun _ => 0)))), (q16, .inr (4, [.ref (g20 0), .ref (g20 1), .ref (g20 2), .int 0])), ((g20 0), .inl (cI, 120, .inl (fun _ => 0))), ((g20 1), .inl (cZ, 120, .inl (fun _ => 0))), ((g20 2), .inl (cI, 120, .inl (fun _ => 0))), (q29, .inl (cI, 120, .inl (fun _ => 0)))]) rfl d_RN_init_31 (fun H locs h => ?_)
  refine lv_aload_n hx hb d_RN_init_34 rfl (lv_at hl 0 rfl) ?_
  refine lv_bipush (v := 120) hx hb d_RN_init_35 (by decide) ?_
  refine tm_newI X h 0 rfl kw_65 120 (by decide) (by decide) (by decide) (by decide) (by decide) d_RN_init_37 (fun q37 H h => ?_)
  have h : tm_H D A sg [(h0, .inr (2, [.null, .ref q5, .ref q16, .ref q29, .null, .int 0, .int 0, .int 0, .int 0, .int 0, .int 0, .int 0, .int 0, .int 0, .int 0])), (q5, .inr (3, [.ref (g9 0), .ref (g9 1)])), ((g9 0), .inl (cI, 241, .inl (fun _ => 0))), ((g9 1), .inl (cL, 1928, .inr (.inl (fun _ => 0)))), (q16, .inr (4, [.ref (g20 0), .ref (g20 1), .ref (g20 2), .int 0])), ((g20 0), .inl (cI, 120, .inl (fun _ => 0))), ((g20 1), .inl (cZ, 120, .inl (fun _ => 0))), ((g20 2), .inl (cI, 120, .inl (fun _ => 0))), (q29, .inl (cI, 120, .inl (fun _ => 0))), (q37, .inl (cI, 120, .inl (fun _ => 0)))] _ _ := h
  refine tm_putF X h hnm uw_RN t_RN t_RN_ok n_RN 0 rfl rfl 4 (by decide) kw_116 rfl rfl rfl rfl rfl (Nat.le_of_ble_eq_true rfl) (ws' := [(h0, .inr (2, [.null, .ref q5, .ref q16, .ref q29, .ref q37, .int 0, .int 0, .int 0, .int 0, .int 0, .int 0, .int 0, .int 0, .int 0, .int 0])), (q5, .inr (3, [.ref (g9 0), .ref (g9 1)])), ((g9 0), .inl (cI, 241, .inl (fun _ => 0))), ((g9 1), .inl (cL, 1928, .inr (.inl (fun _ => 0)))), (q16, .inr (4, [.ref (g20 0), .ref (g20 1), .ref (g20 2), .int 0])), ((g20 0), .inl (cI, 120, .inl (fun _ => 0))), ((g20 1), .inl (cZ, 120, .inl (fun _ => 0))), ((g20 2), .inl (cI, 120, .inl (fun _ => 0))), (q29, .inl (cI, 120, .inl (fun _ => 0))), (q37, .inl (cI, 120, .inl (fun _ => 0)))]) rfl d_RN_init_39 (fun H locs h => ?_)
  refine lv_aload_n hx hb d_RN_init_42 rfl (lv_at hl 0 rfl) ?_
  refine lv_iconst (v := 0) hx hb d_RN_init_43 (by decide) ?_
  refine tm_put X h uw_RN t_RN t_RN_ok n_RN 0 rfl rfl 6 (by decide) kw_119 rfl rfl rfl rfl (Nat.le_of_ble_eq_true rfl) (ws' := [(h0, .inr (2, [.null, .ref q5, .ref q16, .ref q29, .ref q37, .int 0, .int 0, .int 0, .int 0, .int 0, .int 0, .int 0, .int 0, .int 0, .int 0])), (q5, .inr (3, [.ref (g9 0), .ref (g9 1)])), ((g9 0), .inl (cI, 241, .inl (fun _ => 0))), ((g9 1), .inl (cL, 1928, .inr (.inl (fun _ => 0)))), (q16, .inr (4, [.ref (g20 0), .ref (g20 1), .ref (g20 2), .int 0])), ((g20 0), .inl (cI, 120, .inl (fun _ => 0))), ((g20 1), .inl (cZ, 120, .inl (fun _ => 0))), ((g20 2), .inl (cI, 120, .inl (fun _ => 0))), (q29, .inl (cI, 120, .inl (fun _ => 0))), (q37, .inl (cI, 120, .inl (fun _ => 0)))]) rfl d_RN_init_44 (fun H locs h => ?_)
  refine lv_aload_n hx hb d_RN_init_47 rfl (lv_at hl 0 rfl) ?_
  refine lv_aload_n hx hb d_RN_init_48 rfl (lv_at hl 1 rfl) ?_
  refine tm_putF X h hnm uw_RN t_RN t_RN_ok n_RN 0 rfl rfl 0 (by decide) kw_111 rfl rfl rfl rfl rfl (Nat.le_of_ble_eq_true rfl) (ws' := [(h0, .inr (2, [.ref x0, .ref q5, .ref q16, .ref q29, .ref q37, .int 0, .int 0, .int 0, .int 0, .int 0, .int 0, .int 0, .int 0, .int 0, .int 0])), (q5, .inr (3, [.ref (g9 0), .ref (g9 1)])), ((g9 0), .inl (cI, 241, .inl (fun _ => 0))), ((g9 1), .inl (cL, 1928, .inr (.inl (fun _ => 0)))), (q16, .inr (4, [.ref (g20 0), .ref (g20 1), .ref (g20 2), .int 0])), ((g20 0), .inl (cI, 120, .inl (fun _ => 0))), ((g20 1), .inl (cZ, 120, .inl (fun _ => 0))), ((g20 2), .inl (cI, 120, .inl (fun _ => 0))), (q29, .inl (cI, 120, .inl (fun _ => 0))), (q37, .inl (cI, 120, .inl (fun _ => 0)))]) rfl d_RN_init_49 (fun H locs h => ?_)
  exact tm_vretJ (S := Nat → Nat) (w1 := wx_RN_init cI cL cZ h0 x0) (fun k => [q5, (g9 0), (g9 1), q16, (g20 0), (g20 1), (g20 2), q29, q37].getD k 0) X h d_RN_init_52
abbrev y_TM_init : MethodName := { cls := "TrimmedMachine", name := "<init>", desc := "()V" }
abbrev b_TM_init : ByteArray := prog_1_method_1_code
theorem kd_TM_init : tm_kd y_TM_init b_TM_init 1 none 0 := ⟨kw_1, kw_22, by decide, by decide, by decide +kernel⟩
abbrev wx_TM_init (cI cL cZ : ClassId) (h0 : Nat) (q : Nat → Nat) : va_W := [(h0, .inr (0, [.ref (q 0), .ref (q 7)])), ((q 0), .inr (1, [.ref (q 1), .ref (q 2), .ref (q 3), .ref (q 4), .ref (q 5), .ref (q 6), .int 0])), ((q 1), .inl (cI, 100, .inl (fun _ => 0))), ((q 2), .inl (cI, 100, .inl (fun _ => 0))), ((q 3), .inl (cI, 100, .inl (fun _ => 0))), ((q 4), .inl (cI, 100, .inl (fun _ => 0))), ((q 5), .inl (cI, 100, .inl (fun _ => 0))), ((q 6), .inl (cI, 100, .inl (fun _ => 0))), ((q 7), .inr (2, [.ref (q 0), .ref (q 8), .ref (q 11), .ref (q 15), .ref (q 16), .int 0, .int 0, .int 0, .int 0, .int 0, .int 0, .int 0, .int 0, .int 0, .int 0])), ((q 8), .inr (3, [.ref (q 9), .ref (q 10)])), ((q 9), .inl (cI, 241, .inl (fun _ => 0))), ((q 10), .inl (cL, 1928, .inr (.inl (fun _ => 0)))), ((q 11), .inr (4, [.ref (q 12), .ref (q 13), .ref (q 14), .int 0])), ((q 12), .inl (cI, 120, .inl (fun _ => 0))), ((q 13), .inl (cZ, 120, .inl (fun _ => 0))), ((q 14), .inl (cI, 120, .inl (fun _ => 0))), ((q 15), .inl (cI, 120, .inl (fun _ => 0))), ((q 16), .inl (cI, 120, .inl (fun _ => 0)))]
theorem d_TM_init_0 : decode b_TM_init 0 = .ok (.aload_n 0, 1) := by decide +kernel
theorem d_TM_init_1 : decode b_TM_init 1 = .ok (.invokespecial 1, 3) := by decide +kernel
theorem d_TM_init_4 : decode b_TM_init 4 = .ok (.aload_n 0, 1) := by decide +kernel
theorem d_TM_init_5 : decode b_TM_init 5 = .ok (.new 7, 3) := by decide +kernel
theorem d_TM_init_8 : decode b_TM_init 8 = .ok (.dup, 1) := by decide +kernel
theorem d_TM_init_9 : decode b_TM_init 9 = .ok (.invokespecial 9, 3) := by decide +kernel
theorem d_TM_init_12 : decode b_TM_init 12 = .ok (.putfield 10, 3) := by decide +kernel
theorem d_TM_init_15 : decode b_TM_init 15 = .ok (.aload_n 0, 1) := by decide +kernel
theorem d_TM_init_16 : decode b_TM_init 16 = .ok (.new 16, 3) := by decide +kernel
theorem d_TM_init_19 : decode b_TM_init 19 = .ok (.dup, 1) := by decide +kernel
theorem d_TM_init_20 : decode b_TM_init 20 = .ok (.aload_n 0, 1) := by decide +kernel
theorem d_TM_init_21 : decode b_TM_init 21 = .ok (.getfield 10, 3) := by decide +kernel
theorem d_TM_init_24 : decode b_TM_init 24 = .ok (.invokespecial 18, 3) := by decide +kernel
theorem d_TM_init_27 : decode b_TM_init 27 = .ok (.putfield 21, 3) := by decide +kernel
theorem d_TM_init_30 : decode b_TM_init 30 = .ok (.return_, 1) := by decide +kernel
set_option maxHeartbeats 4000000 in
set_option maxRecDepth 100000 in
theorem c_TM_init (l : Launch) (D : va_G) (cI cL cZ : ClassId) (h0 : Nat) (sz : Nat) : Met l y_TM_init (Cond.code y_TM_init b_TM_init 1 none :: tm_wa) ({ frames := 3, cells := 17, slots := 3397, locals := 61 } : Room) (va_Pc [.ref h0] (tm_Pre D (tm_yC cI cL cZ) [(h0, .inr (0, [.null, .null]))] sz)) (va_Qv (fun _ : Nat → Nat => True) (fun q t => tm_B D (tm_yC cI cL cZ) (va_A [(h0, .inr (0, [.null, .null]))] sz) (wx_TM_init cI cL cZ h0 q) t) (va_A [(h0, .inr (0, [.null, .null]))] sz)) 17 3397 (va_A [(h0, .inr (0, [.null, .null]))] sz) := by
  refine tm_of (Qc := fun A => va_Qv (fun _ : Nat → Nat => True) (fun q t => tm_B D (tm_yC cI cL cZ) A (wx_TM_init cI cL cZ h0 q) t) A) (by decide) (Nat.le_of_ble_eq_true rfl) ?_ sz
  intro pg eg sg mg bel met cg A ls X h hl hnm
  have hx := X.1.1
  have hb := X.1.2.1
  have hl : lv_has ls 1 [(0, .ref h0)] := hl
  refine lv_aload_n hx hb d_TM_init_0 rfl (lv_at hl 0 rfl) ?_
  refine tm_obj X kw_23 kw_24 kw_25 hl.1 d_TM_init_1 (by decide) (Nat.le_of_ble_eq_true rfl) ?_
  refine lv_aload_n hx hb d_TM_init_4 rfl (lv_at hl 0 rfl) ?_
  refine tm_new X h uw_EX t_EX t_EX_ok kw_26 kw_27 kw_2 (ci := 1) (fs := [.null, .null, .null, .null, .null, .null, .int 0]) rfl (by decide) (by decide) (by decide) d_TM_init_5 (fun q5 H h => ?_)
  have h : tm_H D A sg [(h0, .inr (0, [.null, .null])), (q5, .inr (1, [.null, .null, .null, .null, .null, .null, .int 0]))] _ _ := h
  refine lv_dup hx hb d_TM_init_8 rfl ?_
  refine tm_jn (wc := [(q5, .inr (1, [.null, .null, .null, .null, .null, .null, .int 0]))]) (wr := [(h0, .inr (0, [.null, .null]))]) X h [1] [0] rfl rfl (by decide) (by decide) (tm_rIN X (tm_cut h [1] rfl (by decide) rfl) (c_EX_init l D cI cL cZ q5  _) kd_EX_init kw_29 rfl kw_28 rfl rfl ⟨by decide, by decide⟩ rfl hl.1 rfl (Nat.le_of_ble_eq_true rfl) d_TM_init_9 ⟨by decide, by decide⟩) (fun g9 H locs _ h => ?_)
  have h : tm_H D A sg [(h0, .inr (0, [.null, .null])), (q5, .inr (1, [.ref (g9 0), .ref (g9 1), .ref (g9 2), .ref (g9 3), .ref (g9 4), .ref (g9 5), .int 0])), ((g9 0), .inl (cI, 100, .inl (fun _ => 0))), ((g9 1), .inl (cI, 100, .inl (fun _ => 0))), ((g9 2), .inl (cI, 100, .inl (fun _ => 0))), ((g9 3), .inl (cI, 100, .inl (fun _ => 0))), ((g9 4), .inl (cI, 100, .inl (fun _ => 0))), ((g9 5), .inl (cI, 100, .inl (fun _ => 0)))] _ _ := h
  refine tm_putF X h hnm uw_TM t_TM t_TM_ok n_TM 0 rfl rfl 0 (by decide) kw_165 rfl rfl rfl rfl rfl (Nat.le_of_ble_eq_true rfl) (ws' := [(h0, .inr (0, [.ref q5, .null])), (q5, .inr (1, [.ref (g9 0), .ref (g9 1), .ref (g9 2), .ref (g9 3), .ref (g9 4), .ref (g9 5), .int 0])), ((g9 0), .inl (cI, 100, .inl (fun _ => 0))), ((g9 1), .inl (cI, 100, .inl (fun _ => 0))), ((g9 2), .inl (cI, 100, .inl (fun _ => 0))), ((g9 3), .inl (cI, 100, .inl (fun _ => 0))), ((g9 4), .inl (cI, 100, .inl (fun _ => 0))), ((g9 5), .inl (cI, 100, .inl (fun _ => 0)))]) rfl d_TM_init_12 (fun H locs h => ?_)
  refine lv_aload_n hx hb d_TM_init_15 rfl (lv_at hl 0 rfl) ?_
  refine tm_new X h uw_RN t_RN t_RN_ok kw_66 kw_67 kw_3 (ci := 2) (fs := [.null, .null, .null, .null, .null, .int 0, .int 0, .int 0, .int 0, .int 0, .int 0, .int 0, .int 0, .int 0, .int 0]) rfl (by decide) (by decide) (by decide) d_TM_init_16 (fun q16 H h => ?_)
  have h : tm_H D A sg [(h0, .inr (0, [.ref q5, .null])), (q5, .inr (1, [.ref (g9 0), .ref (g9 1), .ref (g9 2), .ref (g9 3), .ref (g9 4), .ref (g9 5), .int 0])), ((g9 0), .inl (cI, 100, .inl (fun _ => 0))), ((g9 1), .inl (cI, 100, .inl (fun _ => 0))), ((g9 2), .inl (cI, 100, .inl (fun _ => 0))), ((g9 3), .inl (cI, 100, .inl (fun _ => 0))), ((g9 4), .inl (cI, 100, .inl (fun _ => 0))), ((g9 5), .inl (cI, 100, .inl (fun _ => 0))), (q16, .inr (2, [.null, .null, .null, .null, .null, .int 0, .int 0, .int 0, .int 0, .int 0, .int 0, .int 0, .int 0, .int 0, .int 0]))] _ _ := h
  refine lv_dup hx hb d_TM_init_19 rfl ?_
  refine lv_aload_n hx hb d_TM_init_20 rfl (lv_at hl 0 rfl) ?_
  refine tm_get X h uw_TM 0 rfl rfl 0 (by decide) kw_165 rfl rfl d_TM_init_21 ?_
  refine tm_jn (wc := [(q16, .inr (2, [.null, .null, .null, .null, .null, .int 0, .int 0, .int 0, .int 0, .int 0, .int 0, .int 0, .int 0, .int 0, .int 0]))]) (wr := [(h0, .inr (0, [.ref q5, .null])), (q5, .inr (1, [.ref (g9 0), .ref (g9 1), .ref (g9 2), .ref (g9 3), .ref (g9 4), .ref (g9 5), .int 0])), ((g9 0), .inl (cI, 100, .inl (fun _ => 0))), ((g9 1), .inl (cI, 100, .inl (fun _ => 0))), ((g9 2), .inl (cI, 100, .inl (fun _ => 0))), ((g9 3), .inl (cI, 100, .inl (fun _ => 0))), ((g9 4), .inl (cI, 100, .inl (fun _ => 0))), ((g9 5), .inl (cI, 100, .inl (fun _ => 0)))]) X h [8] [0, 1, 2, 3, 4, 5, 6, 7] rfl rfl (by decide) (by decide) (tm_rIN X (tm_cut h [8] rfl (by decide) rfl) (c_RN_init l D cI cL cZ q16 q5 _) kd_RN_init kw_69 rfl kw_68 rfl rfl ⟨by decide, by decide⟩ rfl hl.1 rfl (Nat.le_of_ble_eq_true rfl) d_TM_init_24 ⟨by decide, by decide⟩) (fun g24 H locs _ h => ?_)
  have h : tm_H D A sg [(h0, .inr (0, [.ref q5, .null])), (q5, .inr (1, [.ref (g9 0), .ref (g9 1), .ref (g9 2), .ref (g9 3), .ref (g9 4), .ref (g9 5), .int 0])), ((g9 0), .inl (cI, 100, .inl (fun _ => 0))), ((g9 1), .inl (cI, 100, .inl (fun _ => 0))), ((g9 2), .inl (cI, 100, .inl (fun _ => 0))), ((g9 3), .inl (cI, 100, .inl (fun _ => 0))), ((g9 4), .inl (cI, 100, .inl (fun _ => 0))), ((g9 5), .inl (cI, 100, .inl (fun _ => 0))), (q16, .inr (2, [.ref q5, .ref (g24 0), .ref (g24 3), .ref (g24 7), .ref (g24 8), .int 0, .int 0, .int 0, .int 0, .int 0, .int 0, .int 0, .int 0, .int 0, .int 0])), ((g24 0), .inr (3, [.ref (g24 1), .ref (g24 2)])), ((g24 1), .inl (cI, 241, .inl (fun _ => 0))), ((g24 2), .inl (cL, 1928, .inr (.inl (fun _ => 0)))), ((g24 3), .inr (4, [.ref (g24 4), .ref (g24 5), .ref (g24 6), .int 0])), ((g24 4), .inl (cI, 120, .inl (fun _ => 0))), ((g24 5), .inl (cZ, 120, .inl (fun _ => 0))), ((g24 6), .inl (cI, 120, .inl (fun _ => 0))), ((g24 7), .inl (cI, 120, .inl (fun _ => 0))), ((g24 8), .inl (cI, 120, .inl (fun _ => 0)))] _ _ := h
  refine tm_putF X h hnm uw_TM t_TM t_TM_ok n_TM 0 rfl rfl 1 (by decide) kw_166 rfl rfl rfl rfl rfl (Nat.le_of_ble_eq_true rfl) (ws' := [(h0, .inr (0, [.ref q5, .ref q16])), (q5, .inr (1, [.ref (g9 0), .ref (g9 1), .ref (g9 2), .ref (g9 3), .ref (g9 4), .ref (g9 5), .int 0])), ((g9 0), .inl (cI, 100, .inl (fun _ => 0))), ((g9 1), .inl (cI, 100, .inl (fun _ => 0))), ((g9 2), .inl (cI, 100, .inl (fun _ => 0))), ((g9 3), .inl (cI, 100, .inl (fun _ => 0))), ((g9 4), .inl (cI, 100, .inl (fun _ => 0))), ((g9 5), .inl (cI, 100, .inl (fun _ => 0))), (q16, .inr (2, [.ref q5, .ref (g24 0), .ref (g24 3), .ref (g24 7), .ref (g24 8), .int 0, .int 0, .int 0, .int 0, .int 0, .int 0, .int 0, .int 0, .int 0, .int 0])), ((g24 0), .inr (3, [.ref (g24 1), .ref (g24 2)])), ((g24 1), .inl (cI, 241, .inl (fun _ => 0))), ((g24 2), .inl (cL, 1928, .inr (.inl (fun _ => 0)))), ((g24 3), .inr (4, [.ref (g24 4), .ref (g24 5), .ref (g24 6), .int 0])), ((g24 4), .inl (cI, 120, .inl (fun _ => 0))), ((g24 5), .inl (cZ, 120, .inl (fun _ => 0))), ((g24 6), .inl (cI, 120, .inl (fun _ => 0))), ((g24 7), .inl (cI, 120, .inl (fun _ => 0))), ((g24 8), .inl (cI, 120, .inl (fun _ => 0)))]) rfl d_TM_init_27 (fun H locs h => ?_)
  exact tm_vretJ (S := Nat → Nat) (w1 := wx_TM_init cI cL cZ h0) (fun k => [q5, (g9 0), (g9 1), (g9 2), (g9 3), (g9 4), (g9 5), q16, (g24 0), (g24 1), (g24 2), (g24 3), (g24 4), (g24 5), (g24 6), (g24 7), (g24 8)].getD k 0) X h d_TM_init_30
abbrev y_MD_init : MethodName := { cls := "TrimmedMachineModel", name := "<init>", desc := "()V" }
abbrev b_MD_init : ByteArray := prog_8_method_1_code
theorem kd_MD_init : tm_kd y_MD_init b_MD_init 1 none 0 := ⟨kw_6, kw_570, by decide, by decide, by decide +kernel⟩
abbrev wx_MD_init (cI cZ : ClassId) (h0 : Nat) (q : Nat → Nat) : va_W := [(h0, .inr (5, [.int 0, .ref (q 0), .ref (q 1), .ref (q 2), .ref (q 3), .ref (q 4), .ref (q 5), .ref (q 6), .ref (q 7), .ref (q 8), .ref (q 9), .ref (q 10), .ref (q 11), .int 0, .int 0, .int 0, .int 0, .int 0, .int 0, .int 0, .int 0, .int 0, .int 0, .int 0, .ref (q 12), .ref (q 13), .ref (q 14), .ref (q 15), .ref (q 16), .int 0, .int 0])), ((q 0), .inl (cI, 100, .inl (fun _ => 0))), ((q 1), .inl (cI, 100, .inl (fun _ => 0))), ((q 2), .inl (cI, 100, .inl (fun _ => 0))), ((q 3), .inl (cI, 100, .inl (fun _ => 0))), ((q 4), .inl (cI, 100, .inl (fun _ => 0))), ((q 5), .inl (cI, 100, .inl (fun _ => 0))), ((q 6), .inl (cI, 260, .inl (fun _ => 0))), ((q 7), .inl (cI, 2080, .inl (fun _ => 0))), ((q 8), .inl (cZ, 2080, .inl (fun _ => 0))), ((q 9), .inl (cI, 130, .inl (fun _ => 0))), ((q 10), .inl (cZ, 130, .inl (fun _ => 0))), ((q 11), .inl (cI, 130, .inl (fun _ => 0))), ((q 12), .inl (cI, 130, .inl (fun _ => 0))), ((q 13), .inl (cI, 130, .inl (fun _ => 0))), ((q 14), .inl (cI, 130, .inl (fun _ => 0))), ((q 15), .inl (cI, 130, .inl (fun _ => 0))), ((q 16), .inl (cZ, 130, .inl (fun _ => 0)))]
theorem d_MD_init_0 : decode b_MD_init 0 = .ok (.aload_n 0, 1) := by decide +kernel
theorem d_MD_init_1 : decode b_MD_init 1 = .ok (.invokespecial 1, 3) := by decide +kernel
theorem d_MD_init_4 : decode b_MD_init 4 = .ok (.aload_n 0, 1) := by decide +kernel
theorem d_MD_init_5 : decode b_MD_init 5 = .ok (.bipush 100, 2) := by decide +kernel
theorem d_MD_init_7 : decode b_MD_init 7 = .ok (.newarray .int, 2) := by decide +kernel
theorem d_MD_init_9 : decode b_MD_init 9 = .ok (.putfield 7, 3) := by decide +kernel
theorem d_MD_init_12 : decode b_MD_init 12 = .ok (.aload_n 0, 1) := by decide +kernel
theorem d_MD_init_13 : decode b_MD_init 13 = .ok (.bipush 100, 2) := by decide +kernel
theorem d_MD_init_15 : decode b_MD_init 15 = .ok (.newarray .int, 2) := by decide +kernel
theorem d_MD_init_17 : decode b_MD_init 17 = .ok (.putfield 13, 3) := by decide +kernel
theorem d_MD_init_20 : decode b_MD_init 20 = .ok (.aload_n 0, 1) := by decide +kernel
theorem d_MD_init_21 : decode b_MD_init 21 = .ok (.bipush 100, 2) := by decide +kernel
theorem d_MD_init_23 : decode b_MD_init 23 = .ok (.newarray .int, 2) := by decide +kernel
theorem d_MD_init_25 : decode b_MD_init 25 = .ok (.putfield 16, 3) := by decide +kernel
theorem d_MD_init_28 : decode b_MD_init 28 = .ok (.aload_n 0, 1) := by decide +kernel
theorem d_MD_init_29 : decode b_MD_init 29 = .ok (.bipush 100, 2) := by decide +kernel
theorem d_MD_init_31 : decode b_MD_init 31 = .ok (.newarray .int, 2) := by decide +kernel
theorem d_MD_init_33 : decode b_MD_init 33 = .ok (.putfield 19, 3) := by decide +kernel
theorem d_MD_init_36 : decode b_MD_init 36 = .ok (.aload_n 0, 1) := by decide +kernel
theorem d_MD_init_37 : decode b_MD_init 37 = .ok (.bipush 100, 2) := by decide +kernel
theorem d_MD_init_39 : decode b_MD_init 39 = .ok (.newarray .int, 2) := by decide +kernel
theorem d_MD_init_41 : decode b_MD_init 41 = .ok (.putfield 22, 3) := by decide +kernel
theorem d_MD_init_44 : decode b_MD_init 44 = .ok (.aload_n 0, 1) := by decide +kernel
theorem d_MD_init_45 : decode b_MD_init 45 = .ok (.bipush 100, 2) := by decide +kernel
theorem d_MD_init_47 : decode b_MD_init 47 = .ok (.newarray .int, 2) := by decide +kernel
theorem d_MD_init_49 : decode b_MD_init 49 = .ok (.putfield 25, 3) := by decide +kernel
theorem d_MD_init_52 : decode b_MD_init 52 = .ok (.aload_n 0, 1) := by decide +kernel
theorem d_MD_init_53 : decode b_MD_init 53 = .ok (.sipush 260, 3) := by decide +kernel
theorem d_MD_init_56 : decode b_MD_init 56 = .ok (.newarray .int, 2) := by decide +kernel
theorem d_MD_init_58 : decode b_MD_init 58 = .ok (.putfield 28, 3) := by decide +kernel
theorem d_MD_init_61 : decode b_MD_init 61 = .ok (.aload_n 0, 1) := by decide +kernel
theorem d_MD_init_62 : decode b_MD_init 62 = .ok (.sipush 2080, 3) := by decide +kernel
theorem d_MD_init_65 : decode b_MD_init 65 = .ok (.newarray .int, 2) := by decide +kernel
theorem d_MD_init_67 : decode b_MD_init 67 = .ok (.putfield 31, 3) := by decide +kernel
theorem d_MD_init_70 : decode b_MD_init 70 = .ok (.aload_n 0, 1) := by decide +kernel
theorem d_MD_init_71 : decode b_MD_init 71 = .ok (.sipush 2080, 3) := by decide +kernel
theorem d_MD_init_74 : decode b_MD_init 74 = .ok (.newarray .boolean, 2) := by decide +kernel
theorem d_MD_init_76 : decode b_MD_init 76 = .ok (.putfield 34, 3) := by decide +kernel
theorem d_MD_init_79 : decode b_MD_init 79 = .ok (.aload_n 0, 1) := by decide +kernel
theorem d_MD_init_80 : decode b_MD_init 80 = .ok (.sipush 130, 3) := by decide +kernel
theorem d_MD_init_83 : decode b_MD_init 83 = .ok (.newarray .int, 2) := by decide +kernel
theorem d_MD_init_85 : decode b_MD_init 85 = .ok (.putfield 38, 3) := by decide +kernel
theorem d_MD_init_88 : decode b_MD_init 88 = .ok (.aload_n 0, 1) := by decide +kernel
theorem d_MD_init_89 : decode b_MD_init 89 = .ok (.sipush 130, 3) := by decide +kernel
theorem d_MD_init_92 : decode b_MD_init 92 = .ok (.newarray .boolean, 2) := by decide +kernel
theorem d_MD_init_94 : decode b_MD_init 94 = .ok (.putfield 41, 3) := by decide +kernel
theorem d_MD_init_97 : decode b_MD_init 97 = .ok (.aload_n 0, 1) := by decide +kernel
theorem d_MD_init_98 : decode b_MD_init 98 = .ok (.sipush 130, 3) := by decide +kernel
theorem d_MD_init_101 : decode b_MD_init 101 = .ok (.newarray .int, 2) := by decide +kernel
theorem d_MD_init_103 : decode b_MD_init 103 = .ok (.putfield 44, 3) := by decide +kernel
theorem d_MD_init_106 : decode b_MD_init 106 = .ok (.aload_n 0, 1) := by decide +kernel
theorem d_MD_init_107 : decode b_MD_init 107 = .ok (.sipush 130, 3) := by decide +kernel
theorem d_MD_init_110 : decode b_MD_init 110 = .ok (.newarray .int, 2) := by decide +kernel
theorem d_MD_init_112 : decode b_MD_init 112 = .ok (.putfield 47, 3) := by decide +kernel
theorem d_MD_init_115 : decode b_MD_init 115 = .ok (.aload_n 0, 1) := by decide +kernel
theorem d_MD_init_116 : decode b_MD_init 116 = .ok (.sipush 130, 3) := by decide +kernel
theorem d_MD_init_119 : decode b_MD_init 119 = .ok (.newarray .int, 2) := by decide +kernel
theorem d_MD_init_121 : decode b_MD_init 121 = .ok (.putfield 50, 3) := by decide +kernel
theorem d_MD_init_124 : decode b_MD_init 124 = .ok (.aload_n 0, 1) := by decide +kernel
theorem d_MD_init_125 : decode b_MD_init 125 = .ok (.sipush 130, 3) := by decide +kernel
theorem d_MD_init_128 : decode b_MD_init 128 = .ok (.newarray .int, 2) := by decide +kernel
theorem d_MD_init_130 : decode b_MD_init 130 = .ok (.putfield 53, 3) := by decide +kernel
theorem d_MD_init_133 : decode b_MD_init 133 = .ok (.aload_n 0, 1) := by decide +kernel
theorem d_MD_init_134 : decode b_MD_init 134 = .ok (.sipush 130, 3) := by decide +kernel
theorem d_MD_init_137 : decode b_MD_init 137 = .ok (.newarray .int, 2) := by decide +kernel
theorem d_MD_init_139 : decode b_MD_init 139 = .ok (.putfield 56, 3) := by decide +kernel
theorem d_MD_init_142 : decode b_MD_init 142 = .ok (.aload_n 0, 1) := by decide +kernel
theorem d_MD_init_143 : decode b_MD_init 143 = .ok (.sipush 130, 3) := by decide +kernel
theorem d_MD_init_146 : decode b_MD_init 146 = .ok (.newarray .boolean, 2) := by decide +kernel
theorem d_MD_init_148 : decode b_MD_init 148 = .ok (.putfield 59, 3) := by decide +kernel
theorem d_MD_init_151 : decode b_MD_init 151 = .ok (.return_, 1) := by decide +kernel
set_option maxHeartbeats 4000000 in
set_option maxRecDepth 100000 in
theorem c_MD_init (l : Launch) (D : va_G) (cI cZ : ClassId) (h0 : Nat) (sz : Nat) : Met l y_MD_init (Cond.code y_MD_init b_MD_init 1 none :: tm_wa) ({ frames := 1, cells := 17, slots := 6060, locals := 20 } : Room) (va_Pc [.ref h0] (tm_Pre D (tm_yM cI cZ) [(h0, .inr (5, [.int 0, .null, .null, .null, .null, .null, .null, .null, .null, .null, .null, .null, .null, .int 0, .int 0, .int 0, .int 0, .int 0, .int 0, .int 0, .int 0, .int 0, .int 0, .int 0, .null, .null, .null, .null, .null, .int 0, .int 0]))] sz)) (va_Qv (fun _ : Nat → Nat => True) (fun q t => tm_B D (tm_yM cI cZ) (va_A [(h0, .inr (5, [.int 0, .null, .null, .null, .null, .null, .null, .null, .null, .null, .null, .null, .null, .int 0, .int 0, .int 0, .int 0, .int 0, .int 0, .int 0, .int 0, .int 0, .int 0, .int 0, .null, .null, .null, .null, .null, .int 0, .int 0]))] sz) (wx_MD_init cI cZ h0 q) t) (va_A [(h0, .inr (5, [.int 0, .null, .null, .null, .null, .null, .null, .null, .null, .null, .null, .null, .null, .int 0, .int 0, .int 0, .int 0, .int 0, .int 0, .int 0, .int 0, .int 0, .int 0, .int 0, .null, .null, .null, .null, .null, .int 0, .int 0]))] sz)) 17 6060 (va_A [(h0, .inr (5, [.int 0, .null, .null, .null, .null, .null, .null, .null, .null, .null, .null, .null, .null, .int 0, .int 0, .int 0, .int 0, .int 0, .int 0, .int 0, .int 0, .int 0, .int 0, .int 0, .null, .null, .null, .null, .null, .int 0, .int 0]))] sz) := by
  refine tm_of (Qc := fun A => va_Qv (fun _ : Nat → Nat => True) (fun q t => tm_B D (tm_yM cI cZ) A (wx_MD_init cI cZ h0 q) t) A) (by decide) (Nat.le_of_ble_eq_true rfl) ?_ sz
  intro pg eg sg mg bel met cg A ls X h hl hnm
  have hx := X.1.1
  have hb := X.1.2.1
  have hl : lv_has ls 1 [(0, .ref h0)] := hl
  refine lv_aload_n hx hb d_MD_init_0 rfl (lv_at hl 0 rfl) ?_
  refine tm_obj X kw_571 kw_24 kw_25 hl.1 d_MD_init_1 (by decide) (Nat.le_of_ble_eq_true rfl) ?_
  refine lv_aload_n hx hb d_MD_init_4 rfl (lv_at hl 0 rfl) ?_
  refine lv_bipush (v := 100) hx hb d_MD_init_5 (by decide) ?_
  refine tm_newI X h 0 rfl kw_65 100 (by decide) (by decide) (by decide) (by decide) (by decide) d_MD_init_7 (fun q7 H h => ?_)
  have h : tm_H D A sg [(h0, .inr (5, [.int 0, .null, .null, .null, .null, .null, .null, .null, .null, .null, .null, .null, .null, .int 0, .int 0, .int 0, .int 0, .int 0, .int 0, .int 0, .int 0, .int 0, .int 0, .int 0, .null, .null, .null, .null, .null, .int 0, .int 0])), (q7, .inl (cI, 100, .inl (fun _ => 0)))] _ _ := h
  refine tm_putF X h hnm uw_MD t_MD t_MD_ok n_MD 0 rfl rfl 1 (by decide) kw_573 rfl rfl rfl rfl rfl (Nat.le_of_ble_eq_true rfl) (ws' := [(h0, .inr (5, [.int 0, .ref q7, .null, .null, .null, .null, .null, .null, .null, .null, .null, .null, .null, .int 0, .int 0, .int 0, .int 0, .int 0, .int 0, .int 0, .int 0, .int 0, .int 0, .int 0, .null, .null, .null, .null, .null, .int 0, .int 0])), (q7, .inl (cI, 100, .inl (fun _ => 0)))]) rfl d_MD_init_9 (fun H locs h => ?_)
  refine lv_aload_n hx hb d_MD_init_12 rfl (lv_at hl 0 rfl) ?_
  refine lv_bipush (v := 100) hx hb d_MD_init_13 (by decide) ?_
  refine tm_newI X h 0 rfl kw_65 100 (by decide) (by decide) (by decide) (by decide) (by decide) d_MD_init_15 (fun q15 H h => ?_)
  have h : tm_H D A sg [(h0, .inr (5, [.int 0, .ref q7, .null, .null, .null, .null, .null, .null, .null, .null, .null, .null, .null, .int 0, .int 0, .int 0, .int 0, .int 0, .int 0, .int 0, .int 0, .int 0, .int 0, .int 0, .null, .null, .null, .null, .null, .int 0, .int 0])), (q7, .inl (cI, 100, .inl (fun _ => 0))), (q15, .inl (cI, 100, .inl (fun _ => 0)))] _ _ := h
  refine tm_putF X h hnm uw_MD t_MD t_MD_ok n_MD 0 rfl rfl 2 (by decide) kw_574 rfl rfl rfl rfl rfl (Nat.le_of_ble_eq_true rfl) (ws' := [(h0, .inr (5, [.int 0, .ref q7, .ref q15, .null, .null, .null, .null, .null, .null, .null, .null, .null, .null, .int 0, .int 0, .int 0, .int 0, .int 0, .int 0, .int 0, .int 0, .int 0, .int 0, .int 0, .null, .null, .null, .null, .null, .int 0, .int 0])), (q7, .inl (cI, 100, .inl (fun _ => 0))), (q15, .inl (cI, 100, .inl (fun _ => 0)))]) rfl d_MD_init_17 (fun H locs h => ?_)
  refine lv_aload_n hx hb d_MD_init_20 rfl (lv_at hl 0 rfl) ?_
  refine lv_bipush (v := 100) hx hb d_MD_init_21 (by decide) ?_
  refine tm_newI X h 0 rfl kw_65 100 (by decide) (by decide) (by decide) (by decide) (by decide) d_MD_init_23 (fun q23 H h => ?_)
  have h : tm_H D A sg [(h0, .inr (5, [.int 0, .ref q7, .ref q15, .null, .null, .null, .null, .null, .null, .null, .null, .null, .null, .int 0, .int 0, .int 0, .int 0, .int 0, .int 0, .int 0, .int 0, .int 0, .int 0, .int 0, .null, .null, .null, .null, .null, .int 0, .int 0])), (q7, .inl (cI, 100, .inl (fun _ => 0))), (q15, .inl (cI, 100, .inl (fun _ => 0))), (q23, .inl (cI, 100, .inl (fun _ => 0)))] _ _ := h
  refine tm_putF X h hnm uw_MD t_MD t_MD_ok n_MD 0 rfl rfl 3 (by decide) kw_575 rfl rfl rfl rfl rfl (Nat.le_of_ble_eq_true rfl) (ws' := [(h0, .inr (5, [.int 0, .ref q7, .ref q15, .ref q23, .null, .null, .null, .null, .null, .null, .null, .null, .null, .int 0, .int 0, .int 0, .int 0, .int 0, .int 0, .int 0, .int 0, .int 0, .int 0, .int 0, .null, .null, .null, .null, .null, .int 0, .int 0])), (q7, .inl (cI, 100, .inl (fun _ => 0))), (q15, .inl (cI, 100, .inl (fun _ => 0))), (q23, .inl (cI, 100, .inl (fun _ => 0)))]) rfl d_MD_init_25 (fun H locs h => ?_)
  refine lv_aload_n hx hb d_MD_init_28 rfl (lv_at hl 0 rfl) ?_
  refine lv_bipush (v := 100) hx hb d_MD_init_29 (by decide) ?_
  refine tm_newI X h 0 rfl kw_65 100 (by decide) (by decide) (by decide) (by decide) (by decide) d_MD_init_31 (fun q31 H h => ?_)
  have h : tm_H D A sg [(h0, .inr (5, [.int 0, .ref q7, .ref q15, .ref q23, .null, .null, .null, .null, .null, .null, .null, .null, .null, .int 0, .int 0, .int 0, .int 0, .int 0, .int 0, .int 0, .int 0, .int 0, .int 0, .int 0, .null, .null, .null, .null, .null, .int 0, .int 0])), (q7, .inl (cI, 100, .inl (fun _ => 0))), (q15, .inl (cI, 100, .inl (fun _ => 0))), (q23, .inl (cI, 100, .inl (fun _ => 0))), (q31, .inl (cI, 100, .inl (fun _ => 0)))] _ _ := h
  refine tm_putF X h hnm uw_MD t_MD t_MD_ok n_MD 0 rfl rfl 4 (by decide) kw_576 rfl rfl rfl rfl rfl (Nat.le_of_ble_eq_true rfl) (ws' := [(h0, .inr (5, [.int 0, .ref q7, .ref q15, .ref q23, .ref q31, .null, .null, .null, .null, .null, .null, .null, .null, .int 0, .int 0, .int 0, .int 0, .int 0, .int 0, .int 0, .int 0, .int 0, .int 0, .int 0, .null, .null, .null, .null, .null, .int 0, .int 0])), (q7, .inl (cI, 100, .inl (fun _ => 0))), (q15, .inl (cI, 100, .inl (fun _ => 0))), (q23, .inl (cI, 100, .inl (fun _ => 0))), (q31, .inl (cI, 100, .inl (fun _ => 0)))]) rfl d_MD_init_33 (fun H locs h => ?_)
  refine lv_aload_n hx hb d_MD_init_36 rfl (lv_at hl 0 rfl) ?_
  refine lv_bipush (v := 100) hx hb d_MD_init_37 (by decide) ?_
  refine tm_newI X h 0 rfl kw_65 100 (by decide) (by decide) (by decide) (by decide) (by decide) d_MD_init_39 (fun q39 H h => ?_)
  have h : tm_H D A sg [(h0, .inr (5, [.int 0, .ref q7, .ref q15, .ref q23, .ref q31, .null, .null, .null, .null, .null, .null, .null, .null, .int 0, .int 0, .int 0, .int 0, .int 0, .int 0, .int 0, .int 0, .int 0, .int 0, .int 0, .null, .null, .null, .null, .null, .int 0, .int 0])), (q7, .inl (cI, 100, .inl (fun _ => 0))), (q15, .inl (cI, 100, .inl (fun _ => 0))), (q23, .inl (cI, 100, .inl (fun _ => 0))), (q31, .inl (cI, 100, .inl (fun _ => 0))), (q39, .inl (cI, 100, .inl (fun _ => 0)))] _ _ := h
  refine tm_putF X h hnm uw_MD t_MD t_MD_ok n_MD 0 rfl rfl 5 (by decide) kw_577 rfl rfl rfl rfl rfl (Nat.le_of_ble_eq_true rfl) (ws' := [(h0, .inr (5, [.int 0, .ref q7, .ref q15, .ref q23, .ref q31, .ref q39, .null, .null, .null, .null, .null, .null, .null, .int 0, .int 0, .int 0, .int 0, .int 0, .int 0, .int 0, .int 0, .int 0, .int 0, .int 0, .null, .null, .null, .null, .null, .int 0, .int 0])), (q7, .inl (cI, 100, .inl (fun _ => 0))), (q15, .inl (cI, 100, .inl (fun _ => 0))), (q23, .inl (cI, 100, .inl (fun _ => 0))), (q31, .inl (cI, 100, .inl (fun _ => 0))), (q39, .inl (cI, 100, .inl (fun _ => 0)))]) rfl d_MD_init_41 (fun H locs h => ?_)
  refine lv_aload_n hx hb d_MD_init_44 rfl (lv_at hl 0 rfl) ?_
  refine lv_bipush (v := 100) hx hb d_MD_init_45 (by decide) ?_
  refine tm_newI X h 0 rfl kw_65 100 (by decide) (by decide) (by decide) (by decide) (by decide) d_MD_init_47 (fun q47 H h => ?_)
  have h : tm_H D A sg [(h0, .inr (5, [.int 0, .ref q7, .ref q15, .ref q23, .ref q31, .ref q39, .null, .null, .null, .null, .null, .null, .null, .int 0, .int 0, .int 0, .int 0, .int 0, .int 0, .int 0, .int 0, .int 0, .int 0, .int 0, .null, .null, .null, .null, .null, .int 0, .int 0])), (q7, .inl (cI, 100, .inl (fun _ => 0))), (q15, .inl (cI, 100, .inl (fun _ => 0))), (q23, .inl (cI, 100, .inl (fun _ => 0))), (q31, .inl (cI, 100, .inl (fun _ => 0))), (q39, .inl (cI, 100, .inl (fun _ => 0))), (q47, .inl (cI, 100, .inl (fun _ => 0)))] _ _ := h
  refine tm_putF X h hnm uw_MD t_MD t_MD_ok n_MD 0 rfl rfl 6 (by decide) kw_578 rfl rfl rfl rfl rfl (Nat.le_of_ble_eq_true rfl) (ws' := [(h0, .inr (5, [.int 0, .ref q7, .ref q15, .ref q23, .ref q31, .ref q39, .ref q47, .null, .null, .null, .null, .null, .null, .int 0, .int 0, .int 0, .int 0, .int 0, .int 0, .int 0, .int 0, .int 0, .int 0, .int 0, .null, .null, .null, .null, .null, .int 0, .int 0])), (q7, .inl (cI, 100, .inl (fun _ => 0))), (q15, .inl (cI, 100, .inl (fun _ => 0))), (q23, .inl (cI, 100, .inl (fun _ => 0))), (q31, .inl (cI, 100, .inl (fun _ => 0))), (q39, .inl (cI, 100, .inl (fun _ => 0))), (q47, .inl (cI, 100, .inl (fun _ => 0)))]) rfl d_MD_init_49 (fun H locs h => ?_)
  refine lv_aload_n hx hb d_MD_init_52 rfl (lv_at hl 0 rfl) ?_
  refine lv_sipush (v := 260) hx hb d_MD_init_53 (by decide) ?_
  refine tm_newI X h 0 rfl kw_65 260 (by decide) (by decide) (by decide) (by decide) (by decide) d_MD_init_56 (fun q56 H h => ?_)
  have h : tm_H D A sg [(h0, .inr (5, [.int 0, .ref q7, .ref q15, .ref q23, .ref q31, .ref q39, .ref q47, .null, .null, .null, .null, .null, .null, .int 0, .int 0, .int 0, .int 0, .int 0, .int 0, .int 0, .int 0, .int 0, .int 0, .int 0, .null, .null, .null, .null, .null, .int 0, .int 0])), (q7, .inl (cI, 100, .inl (fun _ => 0))), (q15, .inl (cI, 100, .inl (fun _ => 0))), (q23, .inl (cI, 100, .inl (fun _ => 0))), (q31, .inl (cI, 100, .inl (fun _ => 0))), (q39, .inl (cI, 100, .inl (fun _ => 0))), (q47, .inl (cI, 100, .inl (fun _ => 0))), (q56, .inl (cI, 260, .inl (fun _ => 0)))] _ _ := h
  refine tm_putF X h hnm uw_MD t_MD t_MD_ok n_MD 0 rfl rfl 7 (by decide) kw_579 rfl rfl rfl rfl rfl (Nat.le_of_ble_eq_true rfl) (ws' := [(h0, .inr (5, [.int 0, .ref q7, .ref q15, .ref q23, .ref q31, .ref q39, .ref q47, .ref q56, .null, .null, .null, .null, .null, .int 0, .int 0, .int 0, .int 0, .int 0, .int 0, .int 0, .int 0, .int 0, .int 0, .int 0, .null, .null, .null, .null, .null, .int 0, .int 0])), (q7, .inl (cI, 100, .inl (fun _ => 0))), (q15, .inl (cI, 100, .inl (fun _ => 0))), (q23, .inl (cI, 100, .inl (fun _ => 0))), (q31, .inl (cI, 100, .inl (fun _ => 0))), (q39, .inl (cI, 100, .inl (fun _ => 0))), (q47, .inl (cI, 100, .inl (fun _ => 0))), (q56, .inl (cI, 260, .inl (fun _ => 0)))]) rfl d_MD_init_58 (fun H locs h => ?_)
  refine lv_aload_n hx hb d_MD_init_61 rfl (lv_at hl 0 rfl) ?_
  refine lv_sipush (v := 2080) hx hb d_MD_init_62 (by decide) ?_
  refine tm_newI X h 0 rfl kw_65 2080 (by decide) (by decide) (by decide) (by decide) (by decide) d_MD_init_65 (fun q65 H h => ?_)
  have h : tm_H D A sg [(h0, .inr (5, [.int 0, .ref q7, .ref q15, .ref q23, .ref q31, .ref q39, .ref q47, .ref q56, .null, .null, .null, .null, .null, .int 0, .int 0, .int 0, .int 0, .int 0, .int 0, .int 0, .int 0, .int 0, .int 0, .int 0, .null, .null, .null, .null, .null, .int 0, .int 0])), (q7, .inl (cI, 100, .inl (fun _ => 0))), (q15, .inl (cI, 100, .inl (fun _ => 0))), (q23, .inl (cI, 100, .inl (fun _ => 0))), (q31, .inl (cI, 100, .inl (fun _ => 0))), (q39, .inl (cI, 100, .inl (fun _ => 0))), (q47, .inl (cI, 100, .inl (fun _ => 0))), (q56, .inl (cI, 260, .inl (fun _ => 0))), (q65, .inl (cI, 2080, .inl (fun _ => 0)))] _ _ := h
  refine tm_putF X h hnm uw_MD t_MD t_MD_ok n_MD 0 rfl rfl 8 (by decide) kw_580 rfl rfl rfl rfl rfl (Nat.le_of_ble_eq_true rfl) (ws' := [(h0, .inr (5, [.int 0, .ref q7, .ref q15, .ref q23, .ref q31, .ref q39, .ref q47, .ref q56, .ref q65, .null, .null, .null, .null, .int 0, .int 0, .int 0, .int 0, .int 0, .int 0, .int 0, .int 0, .int 0, .int 0, .int 0, .null, .null, .null, .null, .null, .int 0, .int 0])), (q7, .inl (cI, 100, .inl (fun _ => 0))), (q15, .inl (cI, 100, .inl (fun _ => 0))), (q23, .inl (cI, 100, .inl (fun _ => 0))), (q31, .inl (cI, 100, .inl (fun _ => 0))), (q39, .inl (cI, 100, .inl (fun _ => 0))), (q47, .inl (cI, 100, .inl (fun _ => 0))), (q56, .inl (cI, 260, .inl (fun _ => 0))), (q65, .inl (cI, 2080, .inl (fun _ => 0)))]) rfl d_MD_init_67 (fun H locs h => ?_)
  refine lv_aload_n hx hb d_MD_init_70 rfl (lv_at hl 0 rfl) ?_
  refine lv_sipush (v := 2080) hx hb d_MD_init_71 (by decide) ?_
  refine tm_newZ X h 1 rfl kw_110 2080 (by decide) (by decide) (by decide) (by decide) (by decide) d_MD_init_74 (fun q74 H h => ?_)
  have h : tm_H D A sg [(h0, .inr (5, [.int 0, .ref q7, .ref q15, .ref q23, .ref q31, .ref q39, .ref q47, .ref q56, .ref q65, .null, .null, .null, .null, .int 0, .int 0, .int 0, .int 0, .int 0, .int 0, .int 0, .int 0, .int 0, .int 0, .int 0, .null, .null, .null, .null, .null, .int 0, .int 0])), (q7, .inl (cI, 100, .inl (fun _ => 0))), (q15, .inl (cI, 100, .inl (fun _ => 0))), (q23, .inl (cI, 100, .inl (fun _ => 0))), (q31, .inl (cI, 100, .inl (fun _ => 0))), (q39, .inl (cI, 100, .inl (fun _ => 0))), (q47, .inl (cI, 100, .inl (fun _ => 0))), (q56, .inl (cI, 260, .inl (fun _ => 0))), (q65, .inl (cI, 2080, .inl (fun _ => 0))), (q74, .inl (cZ, 2080, .inl (fun _ => 0)))] _ _ := h
  refine tm_putF X h hnm uw_MD t_MD t_MD_ok n_MD 0 rfl rfl 9 (by decide) kw_581 rfl rfl rfl rfl rfl (Nat.le_of_ble_eq_true rfl) (ws' := [(h0, .inr (5, [.int 0, .ref q7, .ref q15, .ref q23, .ref q31, .ref q39, .ref q47, .ref q56, .ref q65, .ref q74, .null, .null, .null, .int 0, .int 0, .int 0, .int 0, .int 0, .int 0, .int 0, .int 0, .int 0, .int 0, .int 0, .null, .null, .null, .null, .null, .int 0, .int 0])), (q7, .inl (cI, 100, .inl (fun _ => 0))), (q15, .inl (cI, 100, .inl (fun _ => 0))), (q23, .inl (cI, 100, .inl (fun _ => 0))), (q31, .inl (cI, 100, .inl (fun _ => 0))), (q39, .inl (cI, 100, .inl (fun _ => 0))), (q47, .inl (cI, 100, .inl (fun _ => 0))), (q56, .inl (cI, 260, .inl (fun _ => 0))), (q65, .inl (cI, 2080, .inl (fun _ => 0))), (q74, .inl (cZ, 2080, .inl (fun _ => 0)))]) rfl d_MD_init_76 (fun H locs h => ?_)
  refine lv_aload_n hx hb d_MD_init_79 rfl (lv_at hl 0 rfl) ?_
  refine lv_sipush (v := 130) hx hb d_MD_init_80 (by decide) ?_
  refine tm_newI X h 0 rfl kw_65 130 (by decide) (by decide) (by decide) (by decide) (by decide) d_MD_init_83 (fun q83 H h => ?_)
  have h : tm_H D A sg [(h0, .inr (5, [.int 0, .ref q7, .ref q15, .ref q23, .ref q31, .ref q39, .ref q47, .ref q56, .ref q65, .ref q74, .null, .null, .null, .int 0, .int 0, .int 0, .int 0, .int 0, .int 0, .int 0, .int 0, .int 0, .int 0, .int 0, .null, .null, .null, .null, .null, .int 0, .int 0])), (q7, .inl (cI, 100, .inl (fun _ => 0))), (q15, .inl (cI, 100, .inl (fun _ => 0))), (q23, .inl (cI, 100, .inl (fun _ => 0))), (q31, .inl (cI, 100, .inl (fun _ => 0))), (q39, .inl (cI, 100, .inl (fun _ => 0))), (q47, .inl (cI, 100, .inl (fun _ => 0))), (q56, .inl (cI, 260, .inl (fun _ => 0))), (q65, .inl (cI, 2080, .inl (fun _ => 0))), (q74, .inl (cZ, 2080, .inl (fun _ => 0))), (q83, .inl (cI, 130, .inl (fun _ => 0)))] _ _ := h
  refine tm_putF X h hnm uw_MD t_MD t_MD_ok n_MD 0 rfl rfl 10 (by decide) kw_582 rfl rfl rfl rfl rfl (Nat.le_of_ble_eq_true rfl) (ws' := [(h0, .inr (5, [.int 0, .ref q7, .ref q15, .ref q23, .ref q31, .ref q39, .ref q47, .ref q56, .ref q65, .ref q74, .ref q83, .null, .null, .int 0, .int 0, .int 0, .int 0, .int 0, .int 0, .int 0, .int 0, .int 0, .int 0, .int 0, .null, .null, .null, .null, .null, .int 0, .int 0])), (q7, .inl (cI, 100, .inl (fun _ => 0))), (q15, .inl (cI, 100, .inl (fun _ => 0))), (q23, .inl (cI, 100, .inl (fun _ => 0))), (q31, .inl (cI, 100, .inl (fun _ => 0))), (q39, .inl (cI, 100, .inl (fun _ => 0))), (q47, .inl (cI, 100, .inl (fun _ => 0))), (q56, .inl (cI, 260, .inl (fun _ => 0))), (q65, .inl (cI, 2080, .inl (fun _ => 0))), (q74, .inl (cZ, 2080, .inl (fun _ => 0))), (q83, .inl (cI, 130, .inl (fun _ => 0)))]) rfl d_MD_init_85 (fun H locs h => ?_)
  refine lv_aload_n hx hb d_MD_init_88 rfl (lv_at hl 0 rfl) ?_
  refine lv_sipush (v := 130) hx hb d_MD_init_89 (by decide) ?_
  refine tm_newZ X h 1 rfl kw_110 130 (by decide) (by decide) (by decide) (by decide) (by decide) d_MD_init_92 (fun q92 H h => ?_)
  have h : tm_H D A sg [(h0, .inr (5, [.int 0, .ref q7, .ref q15, .ref q23, .ref q31, .ref q39, .ref q47, .ref q56, .ref q65, .ref q74, .ref q83, .null, .null, .int 0, .int 0, .int 0, .int 0, .int 0, .int 0, .int 0, .int 0, .int 0, .int 0, .int 0, .null, .null, .null, .null, .null, .int 0, .int 0])), (q7, .inl (cI, 100, .inl (fun _ => 0))), (q15, .inl (cI, 100, .inl (fun _ => 0))), (q23, .inl (cI, 100, .inl (fun _ => 0))), (q31, .inl (cI, 100, .inl (fun _ => 0))), (q39, .inl (cI, 100, .inl (fun _ => 0))), (q47, .inl (cI, 100, .inl (fun _ => 0))), (q56, .inl (cI, 260, .inl (fun _ => 0))), (q65, .inl (cI, 2080, .inl (fun _ => 0))), (q74, .inl (cZ, 2080, .inl (fun _ => 0))), (q83, .inl (cI, 130, .inl (fun _ => 0))), (q92, .inl (cZ, 130, .inl (fun _ => 0)))] _ _ := h
  refine tm_putF X h hnm uw_MD t_MD t_MD_ok n_MD 0 rfl rfl 11 (by decide) kw_583 rfl rfl rfl rfl rfl (Nat.le_of_ble_eq_true rfl) (ws' := [(h0, .inr (5, [.int 0, .ref q7, .ref q15, .ref q23, .ref q31, .ref q39, .ref q47, .ref q56, .ref q65, .ref q74, .ref q83, .ref q92, .null, .int 0, .int 0, .int 0, .int 0, .int 0, .int 0, .int 0, .int 0, .int 0, .int 0, .int 0, .null, .null, .null, .null, .null, .int 0, .int 0])), (q7, .inl (cI, 100, .inl (fun _ => 0))), (q15, .inl (cI, 100, .inl (fun _ => 0))), (q23, .inl (cI, 100, .inl (fun _ => 0))), (q31, .inl (cI, 100, .inl (fun _ => 0))), (q39, .inl (cI, 100, .inl (fun _ => 0))), (q47, .inl (cI, 100, .inl (fun _ => 0))), (q56, .inl (cI, 260, .inl (fun _ => 0))), (q65, .inl (cI, 2080, .inl (fun _ => 0))), (q74, .inl (cZ, 2080, .inl (fun _ => 0))), (q83, .inl (cI, 130, .inl (fun _ => 0))), (q92, .inl (cZ, 130, .inl (fun _ => 0)))]) rfl d_MD_init_94 (fun H locs h => ?_)
  refine lv_aload_n hx hb d_MD_init_97 rfl (lv_at hl 0 rfl) ?_
  refine lv_sipush (v := 130) hx hb d_MD_init_98 (by decide) ?_
  refine tm_newI X h 0 rfl kw_65 130 (by decide) (by decide) (by decide) (by decide) (by decide) d_MD_init_101 (fun q101 H h => ?_)
  have h : tm_H D A sg [(h0, .inr (5, [.int 0, .ref q7, .ref q15, .ref q23, .ref q31, .ref q39, .ref q47, .ref q56, .ref q65, .ref q74, .ref q83, .ref q92, .null, .int 0, .int 0, .int 0, .int 0, .int 0, .int 0, .int 0, .int 0, .int 0, .int 0, .int 0, .null, .null, .null, .null, .null, .int 0, .int 0])), (q7, .inl (cI, 100, .inl (fun _ => 0))), (q15, .inl (cI, 100, .inl (fun _ => 0))), (q23, .inl (cI, 100, .inl (fun _ => 0))), (q31, .inl (cI, 100, .inl (fun _ => 0))), (q39, .inl (cI, 100, .inl (fun _ => 0))), (q47, .inl (cI, 100, .inl (fun _ => 0))), (q56, .inl (cI, 260, .inl (fun _ => 0))), (q65, .inl (cI, 2080, .inl (fun _ => 0))), (q74, .inl (cZ, 2080, .inl (fun _ => 0))), (q83, .inl (cI, 130, .inl (fun _ => 0))), (q92, .inl (cZ, 130, .inl (fun _ => 0))), (q101, .inl (cI, 130, .inl (fun _ => 0)))] _ _ := h
  refine tm_putF X h hnm uw_MD t_MD t_MD_ok n_MD 0 rfl rfl 12 (by decide) kw_584 rfl rfl rfl rfl rfl (Nat.le_of_ble_eq_true rfl) (ws' := [(h0, .inr (5, [.int 0, .ref q7, .ref q15, .ref q23, .ref q31, .ref q39, .ref q47, .ref q56, .ref q65, .ref q74, .ref q83, .ref q92, .ref q101, .int 0, .int 0, .int 0, .int 0, .int 0, .int 0, .int 0, .int 0, .int 0, .int 0, .int 0, .null, .null, .null, .null, .null, .int 0, .int 0])), (q7, .inl (cI, 100, .inl (fun _ => 0))), (q15, .inl (cI, 100, .inl (fun _ => 0))), (q23, .inl (cI, 100, .inl (fun _ => 0))), (q31, .inl (cI, 100, .inl (fun _ => 0))), (q39, .inl (cI, 100, .inl (fun _ => 0))), (q47, .inl (cI, 100, .inl (fun _ => 0))), (q56, .inl (cI, 260, .inl (fun _ => 0))), (q65, .inl (cI, 2080, .inl (fun _ => 0))), (q74, .inl (cZ, 2080, .inl (fun _ => 0))), (q83, .inl (cI, 130, .inl (fun _ => 0))), (q92, .inl (cZ, 130, .inl (fun _ => 0))), (q101, .inl (cI, 130, .inl (fun _ => 0)))]) rfl d_MD_init_103 (fun H locs h => ?_)
  refine lv_aload_n hx hb d_MD_init_106 rfl (lv_at hl 0 rfl) ?_
  refine lv_sipush (v := 130) hx hb d_MD_init_107 (by decide) ?_
  refine tm_newI X h 0 rfl kw_65 130 (by decide) (by decide) (by decide) (by decide) (by decide) d_MD_init_110 (fun q110 H h => ?_)
  have h : tm_H D A sg [(h0, .inr (5, [.int 0, .ref q7, .ref q15, .ref q23, .ref q31, .ref q39, .ref q47, .ref q56, .ref q65, .ref q74, .ref q83, .ref q92, .ref q101, .int 0, .int 0, .int 0, .int 0, .int 0, .int 0, .int 0, .int 0, .int 0, .int 0, .int 0, .null, .null, .null, .null, .null, .int 0, .int 0])), (q7, .inl (cI, 100, .inl (fun _ => 0))), (q15, .inl (cI, 100, .inl (fun _ => 0))), (q23, .inl (cI, 100, .inl (fun _ => 0))), (q31, .inl (cI, 100, .inl (fun _ => 0))), (q39, .inl (cI, 100, .inl (fun _ => 0))), (q47, .inl (cI, 100, .inl (fun _ => 0))), (q56, .inl (cI, 260, .inl (fun _ => 0))), (q65, .inl (cI, 2080, .inl (fun _ => 0))), (q74, .inl (cZ, 2080, .inl (fun _ => 0))), (q83, .inl (cI, 130, .inl (fun _ => 0))), (q92, .inl (cZ, 130, .inl (fun _ => 0))), (q101, .inl (cI, 130, .inl (fun _ => 0))), (q110, .inl (cI, 130, .inl (fun _ => 0)))] _ _ := h
  refine tm_putF X h hnm uw_MD t_MD t_MD_ok n_MD 0 rfl rfl 24 (by decide) kw_596 rfl rfl rfl rfl rfl (Nat.le_of_ble_eq_true rfl) (ws' := [(h0, .inr (5, [.int 0, .ref q7, .ref q15, .ref q23, .ref q31, .ref q39, .ref q47, .ref q56, .ref q65, .ref q74, .ref q83, .ref q92, .ref q101, .int 0, .int 0, .int 0, .int 0, .int 0, .int 0, .int 0, .int 0, .int 0, .int 0, .int 0, .ref q110, .null, .null, .null, .null, .int 0, .int 0])), (q7, .inl (cI, 100, .inl (fun _ => 0))), (q15, .inl (cI, 100, .inl (fun _ => 0))), (q23, .inl (cI, 100, .inl (fun _ => 0))), (q31, .inl (cI, 100, .inl (fun _ => 0))), (q39, .inl (cI, 100, .inl (fun _ => 0))), (q47, .inl (cI, 100, .inl (fun _ => 0))), (q56, .inl (cI, 260, .inl (fun _ => 0))), (q65, .inl (cI, 2080, .inl (fun _ => 0))), (q74, .inl (cZ, 2080, .inl (fun _ => 0))), (q83, .inl (cI, 130, .inl (fun _ => 0))), (q92, .inl (cZ, 130, .inl (fun _ => 0))), (q101, .inl (cI, 130, .inl (fun _ => 0))), (q110, .inl (cI, 130, .inl (fun _ => 0)))]) rfl d_MD_init_112 (fun H locs h => ?_)
  refine lv_aload_n hx hb d_MD_init_115 rfl (lv_at hl 0 rfl) ?_
  refine lv_sipush (v := 130) hx hb d_MD_init_116 (by decide) ?_
  refine tm_newI X h 0 rfl kw_65 130 (by decide) (by decide) (by decide) (by decide) (by decide) d_MD_init_119 (fun q119 H h => ?_)
  have h : tm_H D A sg [(h0, .inr (5, [.int 0, .ref q7, .ref q15, .ref q23, .ref q31, .ref q39, .ref q47, .ref q56, .ref q65, .ref q74, .ref q83, .ref q92, .ref q101, .int 0, .int 0, .int 0, .int 0, .int 0, .int 0, .int 0, .int 0, .int 0, .int 0, .int 0, .ref q110, .null, .null, .null, .null, .int 0, .int 0])), (q7, .inl (cI, 100, .inl (fun _ => 0))), (q15, .inl (cI, 100, .inl (fun _ => 0))), (q23, .inl (cI, 100, .inl (fun _ => 0))), (q31, .inl (cI, 100, .inl (fun _ => 0))), (q39, .inl (cI, 100, .inl (fun _ => 0))), (q47, .inl (cI, 100, .inl (fun _ => 0))), (q56, .inl (cI, 260, .inl (fun _ => 0))), (q65, .inl (cI, 2080, .inl (fun _ => 0))), (q74, .inl (cZ, 2080, .inl (fun _ => 0))), (q83, .inl (cI, 130, .inl (fun _ => 0))), (q92, .inl (cZ, 130, .inl (fun _ => 0))), (q101, .inl (cI, 130, .inl (fun _ => 0))), (q110, .inl (cI, 130, .inl (fun _ => 0))), (q119, .inl (cI, 130, .inl (fun _ => 0)))] _ _ := h
  refine tm_putF X h hnm uw_MD t_MD t_MD_ok n_MD 0 rfl rfl 25 (by decide) kw_597 rfl rfl rfl rfl rfl (Nat.le_of_ble_eq_true rfl) (ws' := [(h0, .inr (5, [.int 0, .ref q7, .ref q15, .ref q23, .ref q31, .ref q39, .ref q47, .ref q56, .ref q65, .ref q74, .ref q83, .ref q92, .ref q101, .int 0, .int 0, .int 0, .int 0, .int 0, .int 0, .int 0, .int 0, .int 0, .int 0, .int 0, .ref q110, .ref q119, .null, .null, .null, .int 0, .int 0])), (q7, .inl (cI, 100, .inl (fun _ => 0))), (q15, .inl (cI, 100, .inl (fun _ => 0))), (q23, .inl (cI, 100, .inl (fun _ => 0))), (q31, .inl (cI, 100, .inl (fun _ => 0))), (q39, .inl (cI, 100, .inl (fun _ => 0))), (q47, .inl (cI, 100, .inl (fun _ => 0))), (q56, .inl (cI, 260, .inl (fun _ => 0))), (q65, .inl (cI, 2080, .inl (fun _ => 0))), (q74, .inl (cZ, 2080, .inl (fun _ => 0))), (q83, .inl (cI, 130, .inl (fun _ => 0))), (q92, .inl (cZ, 130, .inl (fun _ => 0))), (q101, .inl (cI, 130, .inl (fun _ => 0))), (q110, .inl (cI, 130, .inl (fun _ => 0))), (q119, .inl (cI, 130, .inl (fun _ => 0)))]) rfl d_MD_init_121 (fun H locs h => ?_)
  refine lv_aload_n hx hb d_MD_init_124 rfl (lv_at hl 0 rfl) ?_
  refine lv_sipush (v := 130) hx hb d_MD_init_125 (by decide) ?_
  refine tm_newI X h 0 rfl kw_65 130 (by decide) (by decide) (by decide) (by decide) (by decide) d_MD_init_128 (fun q128 H h => ?_)
  have h : tm_H D A sg [(h0, .inr (5, [.int 0, .ref q7, .ref q15, .ref q23, .ref q31, .ref q39, .ref q47, .ref q56, .ref q65, .ref q74, .ref q83, .ref q92, .ref q101, .int 0, .int 0, .int 0, .int 0, .int 0, .int 0, .int 0, .int 0, .int 0, .int 0, .int 0, .ref q110, .ref q119, .null, .null, .null, .int 0, .int 0])), (q7, .inl (cI, 100, .inl (fun _ => 0))), (q15, .inl (cI, 100, .inl (fun _ => 0))), (q23, .inl (cI, 100, .inl (fun _ => 0))), (q31, .inl (cI, 100, .inl (fun _ => 0))), (q39, .inl (cI, 100, .inl (fun _ => 0))), (q47, .inl (cI, 100, .inl (fun _ => 0))), (q56, .inl (cI, 260, .inl (fun _ => 0))), (q65, .inl (cI, 2080, .inl (fun _ => 0))), (q74, .inl (cZ, 2080, .inl (fun _ => 0))), (q83, .inl (cI, 130, .inl (fun _ => 0))), (q92, .inl (cZ, 130, .inl (fun _ => 0))), (q101, .inl (cI, 130, .inl (fun _ => 0))), (q110, .inl (cI, 130, .inl (fun _ => 0))), (q119, .inl (cI, 130, .inl (fun _ => 0))), (q128, .inl (cI, 130, .inl (fun _ => 0)))] _ _ := h
  refine tm_putF X h hnm uw_MD t_MD t_MD_ok n_MD 0 rfl rfl 26 (by decide) kw_598 rfl rfl rfl rfl rfl (Nat.le_of_ble_eq_true rfl) (ws' := [(h0, .inr (5, [.int 0, .ref q7, .ref q15, .ref q23, .ref q31, .ref q39, .ref q47, .ref q56, .ref q65, .ref q74, .ref q83, .ref q92, .ref q101, .int 0, .int 0, .int 0, .int 0, .int 0, .int 0, .int 0, .int 0, .int 0, .int 0, .int 0, .ref q110, .ref q119, .ref q128, .null, .null, .int 0, .int 0])), (q7, .inl (cI, 100, .inl (fun _ => 0))), (q15, .inl (cI, 100, .inl (fun _ => 0))), (q23, .inl (cI, 100, .inl (fun _ => 0))), (q31, .inl (cI, 100, .inl (fun _ => 0))), (q39, .inl (cI, 100, .inl (fun _ => 0))), (q47, .inl (cI, 100, .inl (fun _ => 0))), (q56, .inl (cI, 260, .inl (fun _ => 0))), (q65, .inl (cI, 2080, .inl (fun _ => 0))), (q74, .inl (cZ, 2080, .inl (fun _ => 0))), (q83, .inl (cI, 130, .inl (fun _ => 0))), (q92, .inl (cZ, 130, .inl (fun _ => 0))), (q101, .inl (cI, 130, .inl (fun _ => 0))), (q110, .inl (cI, 130, .inl (fun _ => 0))), (q119, .inl (cI, 130, .inl (fun _ => 0))), (q128, .inl (cI, 130, .inl (fun _ => 0)))]) rfl d_MD_init_130 (fun H locs h => ?_)
  refine lv_aload_n hx hb d_MD_init_133 rfl (lv_at hl 0 rfl) ?_
  refine lv_sipush (v := 130) hx hb d_MD_init_134 (by decide) ?_
  refine tm_newI X h 0 rfl kw_65 130 (by decide) (by decide) (by decide) (by decide) (by decide) d_MD_init_137 (fun q137 H h => ?_)
  have h : tm_H D A sg [(h0, .inr (5, [.int 0, .ref q7, .ref q15, .ref q23, .ref q31, .ref q39, .ref q47, .ref q56, .ref q65, .ref q74, .ref q83, .ref q92, .ref q101, .int 0, .int 0, .int 0, .int 0, .int 0, .int 0, .int 0, .int 0, .int 0, .int 0, .int 0, .ref q110, .ref q119, .ref q128, .null, .null, .int 0, .int 0])), (q7, .inl (cI, 100, .inl (fun _ => 0))), (q15, .inl (cI, 100, .inl (fun _ => 0))), (q23, .inl (cI, 100, .inl (fun _ => 0))), (q31, .inl (cI, 100, .inl (fun _ => 0))), (q39, .inl (cI, 100, .inl (fun _ => 0))), (q47, .inl (cI, 100, .inl (fun _ => 0))), (q56, .inl (cI, 260, .inl (fun _ => 0))), (q65, .inl (cI, 2080, .inl (fun _ => 0))), (q74, .inl (cZ, 2080, .inl (fun _ => 0))), (q83, .inl (cI, 130, .inl (fun _ => 0))), (q92, .inl (cZ, 130, .inl (fun _ => 0))), (q101, .inl (cI, 130, .inl (fun _ => 0))), (q110, .inl (cI, 130, .inl (fun _ => 0))), (q119, .inl (cI, 130, .inl (fun _ => 0))), (q128, .inl (cI, 130, .inl (fun _ => 0))), (q137, .inl (cI, 130, .inl (fun _ => 0)))] _ _ := h
  refine tm_putF X h hnm uw_MD t_MD t_MD_ok n_MD 0 rfl rfl 27 (by decide) kw_599 rfl rfl rfl rfl rfl (Nat.le_of_ble_eq_true rfl) (ws' := [(h0, .inr (5, [.int 0, .ref q7, .ref q15, .ref q23, .ref q31, .ref q39, .ref q47, .ref q56, .ref q65, .ref q74, .ref q83, .ref q92, .ref q101, .int 0, .int 0, .int 0, .int 0, .int 0, .int 0, .int 0, .int 0, .int 0, .int 0, .int 0, .ref q110, .ref q119, .ref q128, .ref q137, .null, .int 0, .int 0])), (q7, .inl (cI, 100, .inl (fun _ => 0))), (q15, .inl (cI, 100, .inl (fun _ => 0))), (q23, .inl (cI, 100, .inl (fun _ => 0))), (q31, .inl (cI, 100, .inl (fun _ => 0))), (q39, .inl (cI, 100, .inl (fun _ => 0))), (q47, .inl (cI, 100, .inl (fun _ => 0))), (q56, .inl (cI, 260, .inl (fun _ => 0))), (q65, .inl (cI, 2080, .inl (fun _ => 0))), (q74, .inl (cZ, 2080, .inl (fun _ => 0))), (q83, .inl (cI, 130, .inl (fun _ => 0))), (q92, .inl (cZ, 130, .inl (fun _ => 0))), (q101, .inl (cI, 130, .inl (fun _ => 0))), (q110, .inl (cI, 130, .inl (fun _ => 0))), (q119, .inl (cI, 130, .inl (fun _ => 0))), (q128, .inl (cI, 130, .inl (fun _ => 0))), (q137, .inl (cI, 130, .inl (fun _ => 0)))]) rfl d_MD_init_139 (fun H locs h => ?_)
  refine lv_aload_n hx hb d_MD_init_142 rfl (lv_at hl 0 rfl) ?_
  refine lv_sipush (v := 130) hx hb d_MD_init_143 (by decide) ?_
  refine tm_newZ X h 1 rfl kw_110 130 (by decide) (by decide) (by decide) (by decide) (by decide) d_MD_init_146 (fun q146 H h => ?_)
  have h : tm_H D A sg [(h0, .inr (5, [.int 0, .ref q7, .ref q15, .ref q23, .ref q31, .ref q39, .ref q47, .ref q56, .ref q65, .ref q74, .ref q83, .ref q92, .ref q101, .int 0, .int 0, .int 0, .int 0, .int 0, .int 0, .int 0, .int 0, .int 0, .int 0, .int 0, .ref q110, .ref q119, .ref q128, .ref q137, .null, .int 0, .int 0])), (q7, .inl (cI, 100, .inl (fun _ => 0))), (q15, .inl (cI, 100, .inl (fun _ => 0))), (q23, .inl (cI, 100, .inl (fun _ => 0))), (q31, .inl (cI, 100, .inl (fun _ => 0))), (q39, .inl (cI, 100, .inl (fun _ => 0))), (q47, .inl (cI, 100, .inl (fun _ => 0))), (q56, .inl (cI, 260, .inl (fun _ => 0))), (q65, .inl (cI, 2080, .inl (fun _ => 0))), (q74, .inl (cZ, 2080, .inl (fun _ => 0))), (q83, .inl (cI, 130, .inl (fun _ => 0))), (q92, .inl (cZ, 130, .inl (fun _ => 0))), (q101, .inl (cI, 130, .inl (fun _ => 0))), (q110, .inl (cI, 130, .inl (fun _ => 0))), (q119, .inl (cI, 130, .inl (fun _ => 0))), (q128, .inl (cI, 130, .inl (fun _ => 0))), (q137, .inl (cI, 130, .inl (fun _ => 0))), (q146, .inl (cZ, 130, .inl (fun _ => 0)))] _ _ := h
  refine tm_putF X h hnm uw_MD t_MD t_MD_ok n_MD 0 rfl rfl 28 (by decide) kw_600 rfl rfl rfl rfl rfl (Nat.le_of_ble_eq_true rfl) (ws' := [(h0, .inr (5, [.int 0, .ref q7, .ref q15, .ref q23, .ref q31, .ref q39, .ref q47, .ref q56, .ref q65, .ref q74, .ref q83, .ref q92, .ref q101, .int 0, .int 0, .int 0, .int 0, .int 0, .int 0, .int 0, .int 0, .int 0, .int 0, .int 0, .ref q110, .ref q119, .ref q128, .ref q137, .ref q146, .int 0, .int 0])), (q7, .inl (cI, 100, .inl (fun _ => 0))), (q15, .inl (cI, 100, .inl (fun _ => 0))), (q23, .inl (cI, 100, .inl (fun _ => 0))), (q31, .inl (cI, 100, .inl (fun _ => 0))), (q39, .inl (cI, 100, .inl (fun _ => 0))), (q47, .inl (cI, 100, .inl (fun _ => 0))), (q56, .inl (cI, 260, .inl (fun _ => 0))), (q65, .inl (cI, 2080, .inl (fun _ => 0))), (q74, .inl (cZ, 2080, .inl (fun _ => 0))), (q83, .inl (cI, 130, .inl (fun _ => 0))), (q92, .inl (cZ, 130, .inl (fun _ => 0))), (q101, .inl (cI, 130, .inl (fun _ => 0))), (q110, .inl (cI, 130, .inl (fun _ => 0))), (q119, .inl (cI, 130, .inl (fun _ => 0))), (q128, .inl (cI, 130, .inl (fun _ => 0))), (q137, .inl (cI, 130, .inl (fun _ => 0))), (q146, .inl (cZ, 130, .inl (fun _ => 0)))]) rfl d_MD_init_148 (fun H locs h => ?_)
  exact tm_vretJ (S := Nat → Nat) (w1 := wx_MD_init cI cZ h0) (fun k => [q7, q15, q23, q31, q39, q47, q56, q65, q74, q83, q92, q101, q110, q119, q128, q137, q146].getD k 0) X h d_MD_init_151
