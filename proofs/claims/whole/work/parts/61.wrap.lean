theorem kw_178 : (Jvm.Cond.codeWith ({ cls := "TrimmedMachineLaw", name := "number", desc := "(LTrimmedMachine;I[J)I" } : Jvm.MethodName) method_3_code (4 : Nat) (Option.some Jvm.ClassFile.FieldType.int) [((0 : Nat), (9 : Nat), (12 : Nat), (13 : Nat))]) ∈ tm_wa := tm_tb (List.mem_append_left _ (List.mem_of_getElem? (i := 178) (rfl))) rfl
theorem kw_179 : (Jvm.Cond.classLink "TrimmedMachineLaw" (13 : Nat) "java/lang/IllegalStateException") ∈ tm_wa := tm_tb (List.mem_append_left _ (List.mem_of_getElem? (i := 179) (by decide +kernel))) rfl
theorem kw_180 : (Jvm.Cond.methodLink "TrimmedMachineLaw" (7 : Nat) ({ cls := "TrimmedMachine", name := "number", desc := "(I)I" } : Jvm.MethodName)) ∈ tm_wa := tm_tb (List.mem_append_left _ (List.mem_of_getElem? (i := 180) (by decide +kernel))) rfl
theorem kw_190 : (Jvm.Cond.castable "java/lang/IllegalStateException" "java/lang/IllegalStateException") ∈ tm_nw := tm_nin (List.mem_append_left _ (List.mem_of_getElem? (i := 190) (by decide +kernel))) rfl
theorem kw_259 : (Jvm.Cond.codeWith ({ cls := "TrimmedMachineLaw", name := "variable", desc := "(LTrimmedMachine;I[J)I" } : Jvm.MethodName) method_4_code (4 : Nat) (Option.some Jvm.ClassFile.FieldType.int) [((0 : Nat), (9 : Nat), (12 : Nat), (18 : Nat)), ((0 : Nat), (9 : Nat), (15 : Nat), (13 : Nat))]) ∈ tm_wa := tm_tb (List.mem_append_right _ (List.mem_append_left _ (List.mem_of_getElem? (i := 19) (rfl)))) rfl
theorem kw_260 : (Jvm.Cond.classLink "TrimmedMachineLaw" (18 : Nat) "java/lang/IllegalArgumentException") ∈ tm_wa := tm_tb (List.mem_append_right _ (List.mem_append_left _ (List.mem_of_getElem? (i := 20) (by decide +kernel)))) rfl
theorem kw_261 : (Jvm.Cond.methodLink "TrimmedMachineLaw" (15 : Nat) ({ cls := "TrimmedMachine", name := "variable", desc := "(I)I" } : Jvm.MethodName)) ∈ tm_wa := tm_tb (List.mem_append_right _ (List.mem_append_left _ (List.mem_of_getElem? (i := 21) (by decide +kernel)))) rfl
theorem kw_271 : (Jvm.Cond.castable "java/lang/IllegalArgumentException" "java/lang/IllegalArgumentException") ∈ tm_nw := tm_nin (List.mem_append_right _ (List.mem_append_left _ (List.mem_of_getElem? (i := 31) (by decide +kernel)))) rfl
theorem kw_287 : (Jvm.Cond.codeWith ({ cls := "TrimmedMachineLaw", name := "function", desc := "(LTrimmedMachine;III[J)I" } : Jvm.MethodName) method_5_code (6 : Nat) (Option.some Jvm.ClassFile.FieldType.int) [((0 : Nat), (12 : Nat), (15 : Nat), (18 : Nat)), ((0 : Nat), (12 : Nat), (19 : Nat), (13 : Nat))]) ∈ tm_wa := tm_tb (List.mem_append_right _ (List.mem_append_left _ (List.mem_of_getElem? (i := 47) (rfl)))) rfl
theorem kw_288 : (Jvm.Cond.methodLink "TrimmedMachineLaw" (20 : Nat) ({ cls := "TrimmedMachine", name := "function", desc := "(III)I" } : Jvm.MethodName)) ∈ tm_wa := tm_tb (List.mem_append_right _ (List.mem_append_left _ (List.mem_of_getElem? (i := 48) (by decide +kernel)))) rfl
theorem kw_304 : (Jvm.Cond.codeWith ({ cls := "TrimmedMachineLaw", name := "call", desc := "(LTrimmedMachine;II[J)I" } : Jvm.MethodName) method_6_code (5 : Nat) (Option.some Jvm.ClassFile.FieldType.int) [((0 : Nat), (10 : Nat), (13 : Nat), (18 : Nat)), ((0 : Nat), (10 : Nat), (17 : Nat), (13 : Nat))]) ∈ tm_wa := tm_tb (List.mem_append_right _ (List.mem_append_left _ (List.mem_of_getElem? (i := 64) (rfl)))) rfl
theorem kw_305 : (Jvm.Cond.methodLink "TrimmedMachineLaw" (24 : Nat) ({ cls := "TrimmedMachine", name := "call", desc := "(II)I" } : Jvm.MethodName)) ∈ tm_wa := tm_tb (List.mem_append_right _ (List.mem_append_left _ (List.mem_of_getElem? (i := 65) (by decide +kernel)))) rfl
theorem kw_314 : (Jvm.Cond.codeWith ({ cls := "TrimmedMachineLaw", name := "operation", desc := "(LTrimmedMachine;III[J)I" } : Jvm.MethodName) method_7_code (6 : Nat) (Option.some Jvm.ClassFile.FieldType.int) [((0 : Nat), (12 : Nat), (15 : Nat), (18 : Nat)), ((0 : Nat), (12 : Nat), (19 : Nat), (13 : Nat))]) ∈ tm_wa := tm_tb (List.mem_append_right _ (List.mem_append_left _ (List.mem_of_getElem? (i := 74) (rfl)))) rfl
theorem kw_315 : (Jvm.Cond.methodLink "TrimmedMachineLaw" (28 : Nat) ({ cls := "TrimmedMachine", name := "operation", desc := "(III)I" } : Jvm.MethodName)) ∈ tm_wa := tm_tb (List.mem_append_right _ (List.mem_append_left _ (List.mem_of_getElem? (i := 75) (by decide +kernel)))) rfl
theorem kw_322 : (Jvm.Cond.codeWith ({ cls := "TrimmedMachineLaw", name := "choice", desc := "(LTrimmedMachine;III[J)I" } : Jvm.MethodName) method_8_code (6 : Nat) (Option.some Jvm.ClassFile.FieldType.int) [((0 : Nat), (12 : Nat), (15 : Nat), (18 : Nat)), ((0 : Nat), (12 : Nat), (19 : Nat), (13 : Nat))]) ∈ tm_wa := tm_tb (List.mem_append_right _ (List.mem_append_left _ (List.mem_of_getElem? (i := 82) (rfl)))) rfl
theorem kw_323 : (Jvm.Cond.methodLink "TrimmedMachineLaw" (31 : Nat) ({ cls := "TrimmedMachine", name := "choice", desc := "(III)I" } : Jvm.MethodName)) ∈ tm_wa := tm_tb (List.mem_append_right _ (List.mem_append_left _ (List.mem_of_getElem? (i := 83) (by decide +kernel)))) rfl
theorem kw_329 : (Jvm.Cond.codeWith ({ cls := "TrimmedMachineLaw", name := "free", desc := "(LTrimmedMachine;I[J)I" } : Jvm.MethodName) method_9_code (4 : Nat) (Option.some Jvm.ClassFile.FieldType.int) [((0 : Nat), (9 : Nat), (12 : Nat), (18 : Nat))]) ∈ tm_wa := tm_tb (List.mem_append_right _ (List.mem_append_left _ (List.mem_of_getElem? (i := 89) (rfl)))) rfl
theorem kw_330 : (Jvm.Cond.methodLink "TrimmedMachineLaw" (34 : Nat) ({ cls := "TrimmedMachine", name := "free", desc := "(I)I" } : Jvm.MethodName)) ∈ tm_wa := tm_tb (List.mem_append_right _ (List.mem_append_left _ (List.mem_of_getElem? (i := 90) (by decide +kernel)))) rfl
theorem kw_336 : (Jvm.Cond.codeWith ({ cls := "TrimmedMachineLaw", name := "begin", desc := "(LTrimmedMachine;II)I" } : Jvm.MethodName) method_10_code (4 : Nat) (Option.some Jvm.ClassFile.FieldType.int) [((0 : Nat), (6 : Nat), (9 : Nat), (18 : Nat))]) ∈ tm_wa := tm_tb (List.mem_append_right _ (List.mem_append_left _ (List.mem_of_getElem? (i := 96) (rfl)))) rfl
theorem kw_337 : (Jvm.Cond.methodLink "TrimmedMachineLaw" (37 : Nat) ({ cls := "TrimmedMachine", name := "begin", desc := "(II)V" } : Jvm.MethodName)) ∈ tm_wa := tm_tb (List.mem_append_right _ (List.mem_append_left _ (List.mem_of_getElem? (i := 97) (by decide +kernel)))) rfl
theorem kw_403 : (Jvm.Cond.codeWith ({ cls := "TrimmedMachineLaw", name := "steps", desc := "(LTrimmedMachine;I[J)I" } : Jvm.MethodName) method_11_code (4 : Nat) (Option.some Jvm.ClassFile.FieldType.int) [((0 : Nat), (9 : Nat), (12 : Nat), (18 : Nat)), ((0 : Nat), (9 : Nat), (15 : Nat), (44 : Nat)), ((0 : Nat), (9 : Nat), (18 : Nat), (46 : Nat)), ((0 : Nat), (9 : Nat), (21 : Nat), (13 : Nat))]) ∈ tm_wa := tm_tb (List.mem_append_right _ (List.mem_append_left _ (List.mem_of_getElem? (i := 163) (rfl)))) rfl
theorem kw_404 : (Jvm.Cond.classLink "TrimmedMachineLaw" (44 : Nat) "java/util/NoSuchElementException") ∈ tm_wa := tm_tb (List.mem_append_right _ (List.mem_append_left _ (List.mem_of_getElem? (i := 164) (by decide +kernel)))) rfl
theorem kw_405 : (Jvm.Cond.classLink "TrimmedMachineLaw" (46 : Nat) "java/lang/UnsupportedOperationException") ∈ tm_wa := tm_tb (List.mem_append_right _ (List.mem_append_left _ (List.mem_of_getElem? (i := 165) (by decide +kernel)))) rfl
theorem kw_406 : (Jvm.Cond.methodLink "TrimmedMachineLaw" (41 : Nat) ({ cls := "TrimmedMachine", name := "steps", desc := "(I)I" } : Jvm.MethodName)) ∈ tm_wa := tm_tb (List.mem_append_right _ (List.mem_append_left _ (List.mem_of_getElem? (i := 166) (by decide +kernel)))) rfl
theorem kw_437 : (Jvm.Cond.castable "java/util/NoSuchElementException" "java/util/NoSuchElementException") ∈ tm_nw := tm_nin (List.mem_append_right _ (List.mem_append_left _ (List.mem_of_getElem? (i := 197) (by decide +kernel)))) rfl
theorem kw_506 : (Jvm.Cond.castable "java/lang/UnsupportedOperationException" "java/lang/UnsupportedOperationException") ∈ tm_nw := tm_nin (List.mem_append_right _ (List.mem_append_right _ (List.mem_append_left _ (List.mem_of_getElem? (i := 26) (by decide +kernel))))) rfl
theorem kw_549 : (Jvm.Cond.codeWith ({ cls := "TrimmedMachineLaw", name := "result", desc := "(LTrimmedMachine;[J)I" } : Jvm.MethodName) method_12_code (3 : Nat) (Option.some Jvm.ClassFile.FieldType.int) [((0 : Nat), (8 : Nat), (11 : Nat), (13 : Nat))]) ∈ tm_wa := tm_tb (List.mem_append_right _ (List.mem_append_right _ (List.mem_append_left _ (List.mem_of_getElem? (i := 69) (rfl))))) rfl
theorem kw_550 : (Jvm.Cond.methodLink "TrimmedMachineLaw" (48 : Nat) ({ cls := "TrimmedMachine", name := "result", desc := "()I" } : Jvm.MethodName)) ∈ tm_wa := tm_tb (List.mem_append_right _ (List.mem_append_right _ (List.mem_append_left _ (List.mem_of_getElem? (i := 70) (by decide +kernel))))) rfl
theorem kw_561 : (Jvm.Cond.codeWith ({ cls := "TrimmedMachineLaw", name := "isClosure", desc := "(LTrimmedMachine;[J)I" } : Jvm.MethodName) method_13_code (3 : Nat) (Option.some Jvm.ClassFile.FieldType.int) [((0 : Nat), (15 : Nat), (18 : Nat), (13 : Nat))]) ∈ tm_wa := tm_tb (List.mem_append_right _ (List.mem_append_right _ (List.mem_append_left _ (List.mem_of_getElem? (i := 81) (rfl))))) rfl
theorem kw_562 : (Jvm.Cond.methodLink "TrimmedMachineLaw" (52 : Nat) ({ cls := "TrimmedMachine", name := "isClosure", desc := "()Z" } : Jvm.MethodName)) ∈ tm_wa := tm_tb (List.mem_append_right _ (List.mem_append_right _ (List.mem_append_left _ (List.mem_of_getElem? (i := 82) (by decide +kernel))))) rfl
def tw_code (L : List (String × Int32)) (E : String) : Int32 := ((L.find? (fun q => q.1 == E)).map (fun q => q.2)).getD 0
abbrev y_LW_number : MethodName := { cls := "TrimmedMachineLaw", name := "number", desc := "(LTrimmedMachine;I[J)I" }
abbrev b_LW_number : ByteArray := method_3_code
abbrev hh_LW_number : List (Nat × Nat × Nat × Nat) := [(0, 9, 12, 13)]
theorem d_LW_number_0 : decode b_LW_number 0 = .ok (.aload_n 2, 1) := by decide +kernel
theorem d_LW_number_1 : decode b_LW_number 1 = .ok (.iconst 0, 1) := by decide +kernel
theorem d_LW_number_2 : decode b_LW_number 2 = .ok (.aload_n 0, 1) := by decide +kernel
theorem d_LW_number_3 : decode b_LW_number 3 = .ok (.iload_n 1, 1) := by decide +kernel
theorem d_LW_number_4 : decode b_LW_number 4 = .ok (.invokevirtual 7, 3) := by decide +kernel
theorem d_LW_number_7 : decode b_LW_number 7 = .ok (.i2l, 1) := by decide +kernel
theorem d_LW_number_8 : decode b_LW_number 8 = .ok (.lastore, 1) := by decide +kernel
theorem d_LW_number_9 : decode b_LW_number 9 = .ok (.goto 6, 3) := by decide +kernel
theorem d_LW_number_12 : decode b_LW_number 12 = .ok (.astore_n 3, 1) := by decide +kernel
theorem d_LW_number_13 : decode b_LW_number 13 = .ok (.iconst 1, 1) := by decide +kernel
theorem d_LW_number_14 : decode b_LW_number 14 = .ok (.ireturn, 1) := by decide +kernel
theorem d_LW_number_15 : decode b_LW_number 15 = .ok (.iconst 0, 1) := by decide +kernel
theorem d_LW_number_16 : decode b_LW_number 16 = .ok (.ireturn, 1) := by decide +kernel
set_option maxHeartbeats 4000000 in
set_option maxRecDepth 100000 in
theorem c_LW_number (l : Launch) (D : va_G) (cI cL cZ : ClassId) (ad : Nat → Nat) (qo : Nat) (p0 : Int32) (z : tw_S) (P : Int32 → tm_SC → Prop) (PX : String → tm_SC → Prop) (hK : tx_I l y_TM_number b_TM_number 2 .int ({ frames := 7, cells := 1, slots := 6, locals := 117 } : Room) D (tm_yC cI cL cZ) (tm_wC ad cI cL cZ) [.ref (ad 0), .int p0] z.1 P PX) (hX : ∀ E v, PX E v → E = "java/lang/IllegalStateException") (sz : Nat) : Met l y_LW_number (Cond.codeWith y_LW_number b_LW_number 4 (some .int) hh_LW_number :: tm_wa) ({ frames := 8, cells := 1, slots := 6, locals := 138 } : Room) (va_Pc [.ref (ad 0), .int p0, .ref qo] (tw_Pre D (tm_yC cI cL cZ) (tw_w qo ad cI cL cZ z) sz)) (va_Qi (fun (k : Int32) (z' : tw_S) => (k = 0 ∧ ∃ r, P r z'.1 ∧ z'.2 = vp_updL z.2 0 r.toInt64) ∨ (∃ E, PX E z'.1 ∧ k = tw_code [("java/lang/IllegalStateException", 1)] E ∧ z'.2 = z.2)) (fun z' t => tm_B D (tm_yC cI cL cZ) (va_A (tw_w qo ad cI cL cZ z) sz) (tw_w qo ad cI cL cZ z') t) (va_A (tw_w qo ad cI cL cZ z) sz)) 1 6 (va_A (tw_w qo ad cI cL cZ z) sz) := by
  refine tw_of (Qc := fun A => va_Qi (fun (k : Int32) (z' : tw_S) => (k = 0 ∧ ∃ r, P r z'.1 ∧ z'.2 = vp_updL z.2 0 r.toInt64) ∨ (∃ E, PX E z'.1 ∧ k = tw_code [("java/lang/IllegalStateException", 1)] E ∧ z'.2 = z.2)) (fun z' t => tm_B D (tm_yC cI cL cZ) A (tw_w qo ad cI cL cZ z') t) A) (by decide) (Nat.le_of_ble_eq_true rfl) ?_ sz
  intro pg eg sg mg bel met cg A ls X h hl hE hNc htab
  have hx := X.1.1
  have hb := X.1.2.1
  have hl : lv_has ls 4 [(0, .ref (ad 0)), (1, .int p0), (2, .ref qo)] := hl
  refine lv_aload_n hx hb d_LW_number_0 rfl (lv_at hl 2 rfl) ?_
  refine lv_iconst (v := 0) hx hb d_LW_number_1 (by decide) ?_
  refine lv_aload_n hx hb d_LW_number_2 rfl (lv_at hl 0 rfl) ?_
  refine lv_iload_n hx hb d_LW_number_3 rfl (lv_at hl 1 rfl) ?_
  refine tx_jI (wc := tm_wC ad cI cL cZ z.1) (wr := [(qo, .inl (cL, 1, .inr (.inl z.2)))]) (w := tm_wC ad cI cL cZ) X h [1, 2, 3, 4, 5, 6, 7, 8, 9, 10, 11, 12, 13, 14, 15, 16, 17, 18] [0] rfl rfl (by decide) (by decide) (tx_rV (q0 := 0) X (tm_cut (wc := tm_wC ad cI cL cZ z.1) h [1, 2, 3, 4, 5, 6, 7, 8, 9, 10, 11, 12, 13, 14, 15, 16, 17, 18] rfl (by decide) rfl) hE (hK _) ki_TM_number kw_180 rfl rfl rfl rfl rfl ⟨by decide, by decide⟩ rfl hl.1 rfl (Nat.le_of_ble_eq_true rfl) d_LW_number_4 ⟨by decide, by decide⟩) (fun E9 u9 q9 ce9 H locs hx9 h e91 e92 e93 => ?_) (fun r9 u9 H locs hp9 h => ?_)
  · have h : tm_H D A sg (tw_w qo ad cI cL cZ (u9, z.2)) _ _ := h
    have e0 := hX E9 u9 hx9
    subst e0
    refine tw_catch (E := "java/lang/IllegalStateException") (pre := []) (x := (0, 9, 12, 13)) (suf := []) X hNc htab rfl (fun z hz => absurd hz List.not_mem_nil) (by decide) (by decide) (by decide) kw_179 kw_190 e91 e92 e93 ?_
    refine lv_astore_n hx hb d_LW_number_12 rfl hl (by decide) rfl (fun ls hl => ?_)
    refine lv_iconst (v := 1) hx hb d_LW_number_13 (by decide) ?_
    exact tw_iret (w1 := tw_w qo ad cI cL cZ) (u9, z.2) X h (Or.inr ⟨_, hx9, rfl, rfl⟩) d_LW_number_14
  · have h : tm_H D A sg (tw_w qo ad cI cL cZ (u9, z.2)) _ _ := h
    refine W.widen (k := 1) (n := 6) (by decide) (by decide) ?_
    refine lv_i2l hx hb d_LW_number_7 rfl ?_
    refine tm_last X h 0 1 rfl rfl 0 (by decide) rfl (by decide) (ws' := tw_w qo ad cI cL cZ (u9, vp_updL z.2 0 (r9.toInt64))) rfl d_LW_number_8 (fun H locs h => ?_)
    refine lv_goto hx hb d_LW_number_9 (tgt := 15) rfl ?_
    refine lv_iconst (v := 0) hx hb d_LW_number_15 (by decide) ?_
    exact tw_iret (w1 := tw_w qo ad cI cL cZ) (u9, vp_updL z.2 0 (r9.toInt64)) X h (Or.inl ⟨rfl, r9, hp9, rfl⟩) d_LW_number_16
abbrev y_LW_variable : MethodName := { cls := "TrimmedMachineLaw", name := "variable", desc := "(LTrimmedMachine;I[J)I" }
abbrev b_LW_variable : ByteArray := method_4_code
abbrev hh_LW_variable : List (Nat × Nat × Nat × Nat) := [(0, 9, 12, 18), (0, 9, 15, 13)]
theorem d_LW_variable_0 : decode b_LW_variable 0 = .ok (.aload_n 2, 1) := by decide +kernel
theorem d_LW_variable_1 : decode b_LW_variable 1 = .ok (.iconst 0, 1) := by decide +kernel
theorem d_LW_variable_2 : decode b_LW_variable 2 = .ok (.aload_n 0, 1) := by decide +kernel
theorem d_LW_variable_3 : decode b_LW_variable 3 = .ok (.iload_n 1, 1) := by decide +kernel
theorem d_LW_variable_4 : decode b_LW_variable 4 = .ok (.invokevirtual 15, 3) := by decide +kernel
theorem d_LW_variable_7 : decode b_LW_variable 7 = .ok (.i2l, 1) := by decide +kernel
theorem d_LW_variable_8 : decode b_LW_variable 8 = .ok (.lastore, 1) := by decide +kernel
theorem d_LW_variable_9 : decode b_LW_variable 9 = .ok (.goto 9, 3) := by decide +kernel
theorem d_LW_variable_12 : decode b_LW_variable 12 = .ok (.astore_n 3, 1) := by decide +kernel
theorem d_LW_variable_13 : decode b_LW_variable 13 = .ok (.iconst 1, 1) := by decide +kernel
theorem d_LW_variable_14 : decode b_LW_variable 14 = .ok (.ireturn, 1) := by decide +kernel
theorem d_LW_variable_15 : decode b_LW_variable 15 = .ok (.astore_n 3, 1) := by decide +kernel
theorem d_LW_variable_16 : decode b_LW_variable 16 = .ok (.iconst 2, 1) := by decide +kernel
theorem d_LW_variable_17 : decode b_LW_variable 17 = .ok (.ireturn, 1) := by decide +kernel
theorem d_LW_variable_18 : decode b_LW_variable 18 = .ok (.iconst 0, 1) := by decide +kernel
theorem d_LW_variable_19 : decode b_LW_variable 19 = .ok (.ireturn, 1) := by decide +kernel
set_option maxHeartbeats 4000000 in
set_option maxRecDepth 100000 in
theorem c_LW_variable (l : Launch) (D : va_G) (cI cL cZ : ClassId) (ad : Nat → Nat) (qo : Nat) (p0 : Int32) (z : tw_S) (P : Int32 → tm_SC → Prop) (PX : String → tm_SC → Prop) (hK : tx_I l y_TM_variable b_TM_variable 2 .int ({ frames := 7, cells := 1, slots := 6, locals := 117 } : Room) D (tm_yC cI cL cZ) (tm_wC ad cI cL cZ) [.ref (ad 0), .int p0] z.1 P PX) (hX : ∀ E v, PX E v → E = "java/lang/IllegalArgumentException" ∨ E = "java/lang/IllegalStateException") (sz : Nat) : Met l y_LW_variable (Cond.codeWith y_LW_variable b_LW_variable 4 (some .int) hh_LW_variable :: tm_wa) ({ frames := 8, cells := 1, slots := 6, locals := 138 } : Room) (va_Pc [.ref (ad 0), .int p0, .ref qo] (tw_Pre D (tm_yC cI cL cZ) (tw_w qo ad cI cL cZ z) sz)) (va_Qi (fun (k : Int32) (z' : tw_S) => (k = 0 ∧ ∃ r, P r z'.1 ∧ z'.2 = vp_updL z.2 0 r.toInt64) ∨ (∃ E, PX E z'.1 ∧ k = tw_code [("java/lang/IllegalArgumentException", 1), ("java/lang/IllegalStateException", 2)] E ∧ z'.2 = z.2)) (fun z' t => tm_B D (tm_yC cI cL cZ) (va_A (tw_w qo ad cI cL cZ z) sz) (tw_w qo ad cI cL cZ z') t) (va_A (tw_w qo ad cI cL cZ z) sz)) 1 6 (va_A (tw_w qo ad cI cL cZ z) sz) := by
  refine tw_of (Qc := fun A => va_Qi (fun (k : Int32) (z' : tw_S) => (k = 0 ∧ ∃ r, P r z'.1 ∧ z'.2 = vp_updL z.2 0 r.toInt64) ∨ (∃ E, PX E z'.1 ∧ k = tw_code [("java/lang/IllegalArgumentException", 1), ("java/lang/IllegalStateException", 2)] E ∧ z'.2 = z.2)) (fun z' t => tm_B D (tm_yC cI cL cZ) A (tw_w qo ad cI cL cZ z') t) A) (by decide) (Nat.le_of_ble_eq_true rfl) ?_ sz
  intro pg eg sg mg bel met cg A ls X h hl hE hNc htab
  have hx := X.1.1
  have hb := X.1.2.1
  have hl : lv_has ls 4 [(0, .ref (ad 0)), (1, .int p0), (2, .ref qo)] := hl
  refine lv_aload_n hx hb d_LW_variable_0 rfl (lv_at hl 2 rfl) ?_
  refine lv_iconst (v := 0) hx hb d_LW_variable_1 (by decide) ?_
  refine lv_aload_n hx hb d_LW_variable_2 rfl (lv_at hl 0 rfl) ?_
  refine lv_iload_n hx hb d_LW_variable_3 rfl (lv_at hl 1 rfl) ?_
  refine tx_jI (wc := tm_wC ad cI cL cZ z.1) (wr := [(qo, .inl (cL, 1, .inr (.inl z.2)))]) (w := tm_wC ad cI cL cZ) X h [1, 2, 3, 4, 5, 6, 7, 8, 9, 10, 11, 12, 13, 14, 15, 16, 17, 18] [0] rfl rfl (by decide) (by decide) (tx_rV (q0 := 0) X (tm_cut (wc := tm_wC ad cI cL cZ z.1) h [1, 2, 3, 4, 5, 6, 7, 8, 9, 10, 11, 12, 13, 14, 15, 16, 17, 18] rfl (by decide) rfl) hE (hK _) ki_TM_variable kw_261 rfl rfl rfl rfl rfl ⟨by decide, by decide⟩ rfl hl.1 rfl (Nat.le_of_ble_eq_true rfl) d_LW_variable_4 ⟨by decide, by decide⟩) (fun E9 u9 q9 ce9 H locs hx9 h e91 e92 e93 => ?_) (fun r9 u9 H locs hp9 h => ?_)
  · have h : tm_H D A sg (tw_w qo ad cI cL cZ (u9, z.2)) _ _ := h
    rcases hX E9 u9 hx9 with e0 | e0
    · subst e0
      refine tw_catch (E := "java/lang/IllegalArgumentException") (pre := []) (x := (0, 9, 12, 18)) (suf := [(0, 9, 15, 13)]) X hNc htab rfl (fun z hz => absurd hz List.not_mem_nil) (by decide) (by decide) (by decide) kw_260 kw_271 e91 e92 e93 ?_
      refine lv_astore_n hx hb d_LW_variable_12 rfl hl (by decide) rfl (fun ls hl => ?_)
      refine lv_iconst (v := 1) hx hb d_LW_variable_13 (by decide) ?_
      exact tw_iret (w1 := tw_w qo ad cI cL cZ) (u9, z.2) X h (Or.inr ⟨_, hx9, rfl, rfl⟩) d_LW_variable_14
    · subst e0
      refine tw_catch (E := "java/lang/IllegalStateException") (pre := [(0, 9, 12, 18)]) (x := (0, 9, 15, 13)) (suf := []) X hNc htab rfl (fun z hz => by simp only [List.mem_cons, List.not_mem_nil, or_false] at hz; subst hz; exact ⟨by decide, _, kw_260, by decide⟩) (by decide) (by decide) (by decide) kw_179 kw_190 e91 e92 e93 ?_
      refine lv_astore_n hx hb d_LW_variable_15 rfl hl (by decide) rfl (fun ls hl => ?_)
      refine lv_iconst (v := 2) hx hb d_LW_variable_16 (by decide) ?_
      exact tw_iret (w1 := tw_w qo ad cI cL cZ) (u9, z.2) X h (Or.inr ⟨_, hx9, rfl, rfl⟩) d_LW_variable_17
  · have h : tm_H D A sg (tw_w qo ad cI cL cZ (u9, z.2)) _ _ := h
    refine W.widen (k := 1) (n := 6) (by decide) (by decide) ?_
    refine lv_i2l hx hb d_LW_variable_7 rfl ?_
    refine tm_last X h 0 1 rfl rfl 0 (by decide) rfl (by decide) (ws' := tw_w qo ad cI cL cZ (u9, vp_updL z.2 0 (r9.toInt64))) rfl d_LW_variable_8 (fun H locs h => ?_)
    refine lv_goto hx hb d_LW_variable_9 (tgt := 18) rfl ?_
    refine lv_iconst (v := 0) hx hb d_LW_variable_18 (by decide) ?_
    exact tw_iret (w1 := tw_w qo ad cI cL cZ) (u9, vp_updL z.2 0 (r9.toInt64)) X h (Or.inl ⟨rfl, r9, hp9, rfl⟩) d_LW_variable_19
abbrev y_LW_function : MethodName := { cls := "TrimmedMachineLaw", name := "function", desc := "(LTrimmedMachine;III[J)I" }
abbrev b_LW_function : ByteArray := method_5_code
abbrev hh_LW_function : List (Nat × Nat × Nat × Nat) := [(0, 12, 15, 18), (0, 12, 19, 13)]
theorem d_LW_function_0 : decode b_LW_function 0 = .ok (.aload 4, 2) := by decide +kernel
theorem d_LW_function_2 : decode b_LW_function 2 = .ok (.iconst 0, 1) := by decide +kernel
theorem d_LW_function_3 : decode b_LW_function 3 = .ok (.aload_n 0, 1) := by decide +kernel
theorem d_LW_function_4 : decode b_LW_function 4 = .ok (.iload_n 1, 1) := by decide +kernel
theorem d_LW_function_5 : decode b_LW_function 5 = .ok (.iload_n 2, 1) := by decide +kernel
theorem d_LW_function_6 : decode b_LW_function 6 = .ok (.iload_n 3, 1) := by decide +kernel
theorem d_LW_function_7 : decode b_LW_function 7 = .ok (.invokevirtual 20, 3) := by decide +kernel
theorem d_LW_function_10 : decode b_LW_function 10 = .ok (.i2l, 1) := by decide +kernel
theorem d_LW_function_11 : decode b_LW_function 11 = .ok (.lastore, 1) := by decide +kernel
theorem d_LW_function_12 : decode b_LW_function 12 = .ok (.goto 11, 3) := by decide +kernel
theorem d_LW_function_15 : decode b_LW_function 15 = .ok (.astore 5, 2) := by decide +kernel
theorem d_LW_function_17 : decode b_LW_function 17 = .ok (.iconst 1, 1) := by decide +kernel
theorem d_LW_function_18 : decode b_LW_function 18 = .ok (.ireturn, 1) := by decide +kernel
theorem d_LW_function_19 : decode b_LW_function 19 = .ok (.astore 5, 2) := by decide +kernel
theorem d_LW_function_21 : decode b_LW_function 21 = .ok (.iconst 2, 1) := by decide +kernel
theorem d_LW_function_22 : decode b_LW_function 22 = .ok (.ireturn, 1) := by decide +kernel
theorem d_LW_function_23 : decode b_LW_function 23 = .ok (.iconst 0, 1) := by decide +kernel
theorem d_LW_function_24 : decode b_LW_function 24 = .ok (.ireturn, 1) := by decide +kernel
set_option maxHeartbeats 4000000 in
set_option maxRecDepth 100000 in
theorem c_LW_function (l : Launch) (D : va_G) (cI cL cZ : ClassId) (ad : Nat → Nat) (qo : Nat) (p0 : Int32) (p1 : Int32) (p2 : Int32) (z : tw_S) (P : Int32 → tm_SC → Prop) (PX : String → tm_SC → Prop) (hK : tx_I l y_TM_function b_TM_function 6 .int ({ frames := 8, cells := 1, slots := 6, locals := 133 } : Room) D (tm_yC cI cL cZ) (tm_wC ad cI cL cZ) [.ref (ad 0), .int p0, .int p1, .int p2] z.1 P PX) (hX : ∀ E v, PX E v → E = "java/lang/IllegalArgumentException" ∨ E = "java/lang/IllegalStateException") (sz : Nat) : Met l y_LW_function (Cond.codeWith y_LW_function b_LW_function 6 (some .int) hh_LW_function :: tm_wa) ({ frames := 9, cells := 1, slots := 6, locals := 158 } : Room) (va_Pc [.ref (ad 0), .int p0, .int p1, .int p2, .ref qo] (tw_Pre D (tm_yC cI cL cZ) (tw_w qo ad cI cL cZ z) sz)) (va_Qi (fun (k : Int32) (z' : tw_S) => (k = 0 ∧ ∃ r, P r z'.1 ∧ z'.2 = vp_updL z.2 0 r.toInt64) ∨ (∃ E, PX E z'.1 ∧ k = tw_code [("java/lang/IllegalArgumentException", 1), ("java/lang/IllegalStateException", 2)] E ∧ z'.2 = z.2)) (fun z' t => tm_B D (tm_yC cI cL cZ) (va_A (tw_w qo ad cI cL cZ z) sz) (tw_w qo ad cI cL cZ z') t) (va_A (tw_w qo ad cI cL cZ z) sz)) 1 6 (va_A (tw_w qo ad cI cL cZ z) sz) := by
  refine tw_of (Qc := fun A => va_Qi (fun (k : Int32) (z' : tw_S) => (k = 0 ∧ ∃ r, P r z'.1 ∧ z'.2 = vp_updL z.2 0 r.toInt64) ∨ (∃ E, PX E z'.1 ∧ k = tw_code [("java/lang/IllegalArgumentException", 1), ("java/lang/IllegalStateException", 2)] E ∧ z'.2 = z.2)) (fun z' t => tm_B D (tm_yC cI cL cZ) A (tw_w qo ad cI cL cZ z') t) A) (by decide) (Nat.le_of_ble_eq_true rfl) ?_ sz
  intro pg eg sg mg bel met cg A ls X h hl hE hNc htab
  have hx := X.1.1
  have hb := X.1.2.1
  have hl : lv_has ls 6 [(0, .ref (ad 0)), (1, .int p0), (2, .int p1), (3, .int p2), (4, .ref qo)] := hl
  refine lv_aload hx hb d_LW_function_0 (lv_at hl 4 rfl) ?_
  refine lv_iconst (v := 0) hx hb d_LW_function_2 (by decide) ?_
  refine lv_aload_n hx hb d_LW_function_3 rfl (lv_at hl 0 rfl) ?_
  refine lv_iload_n hx hb d_LW_function_4 rfl (lv_at hl 1 rfl) ?_
  refine lv_iload_n hx hb d_LW_function_5 rfl (lv_at hl 2 rfl) ?_
  refine lv_iload_n hx hb d_LW_function_6 rfl (lv_at hl 3 rfl) ?_
  refine tx_jI (wc := tm_wC ad cI cL cZ z.1) (wr := [(qo, .inl (cL, 1, .inr (.inl z.2)))]) (w := tm_wC ad cI cL cZ) X h [1, 2, 3, 4, 5, 6, 7, 8, 9, 10, 11, 12, 13, 14, 15, 16, 17, 18] [0] rfl rfl (by decide) (by decide) (tx_rV (q0 := 0) X (tm_cut (wc := tm_wC ad cI cL cZ z.1) h [1, 2, 3, 4, 5, 6, 7, 8, 9, 10, 11, 12, 13, 14, 15, 16, 17, 18] rfl (by decide) rfl) hE (hK _) ki_TM_function kw_288 rfl rfl rfl rfl rfl ⟨by decide, by decide⟩ rfl hl.1 rfl (Nat.le_of_ble_eq_true rfl) d_LW_function_7 ⟨by decide, by decide⟩) (fun E9 u9 q9 ce9 H locs hx9 h e91 e92 e93 => ?_) (fun r9 u9 H locs hp9 h => ?_)
  · have h : tm_H D A sg (tw_w qo ad cI cL cZ (u9, z.2)) _ _ := h
    rcases hX E9 u9 hx9 with e0 | e0
    · subst e0
      refine tw_catch (E := "java/lang/IllegalArgumentException") (pre := []) (x := (0, 12, 15, 18)) (suf := [(0, 12, 19, 13)]) X hNc htab rfl (fun z hz => absurd hz List.not_mem_nil) (by decide) (by decide) (by decide) kw_260 kw_271 e91 e92 e93 ?_
      refine lv_astore hx hb d_LW_function_15 hl (by decide) rfl (fun ls hl => ?_)
      refine lv_iconst (v := 1) hx hb d_LW_function_17 (by decide) ?_
      exact tw_iret (w1 := tw_w qo ad cI cL cZ) (u9, z.2) X h (Or.inr ⟨_, hx9, rfl, rfl⟩) d_LW_function_18
    · subst e0
      refine tw_catch (E := "java/lang/IllegalStateException") (pre := [(0, 12, 15, 18)]) (x := (0, 12, 19, 13)) (suf := []) X hNc htab rfl (fun z hz => by simp only [List.mem_cons, List.not_mem_nil, or_false] at hz; subst hz; exact ⟨by decide, _, kw_260, by decide⟩) (by decide) (by decide) (by decide) kw_179 kw_190 e91 e92 e93 ?_
      refine lv_astore hx hb d_LW_function_19 hl (by decide) rfl (fun ls hl => ?_)
      refine lv_iconst (v := 2) hx hb d_LW_function_21 (by decide) ?_
      exact tw_iret (w1 := tw_w qo ad cI cL cZ) (u9, z.2) X h (Or.inr ⟨_, hx9, rfl, rfl⟩) d_LW_function_22
  · have h : tm_H D A sg (tw_w qo ad cI cL cZ (u9, z.2)) _ _ := h
    refine W.widen (k := 1) (n := 6) (by decide) (by decide) ?_
    refine lv_i2l hx hb d_LW_function_10 rfl ?_
    refine tm_last X h 0 1 rfl rfl 0 (by decide) rfl (by decide) (ws' := tw_w qo ad cI cL cZ (u9, vp_updL z.2 0 (r9.toInt64))) rfl d_LW_function_11 (fun H locs h => ?_)
    refine lv_goto hx hb d_LW_function_12 (tgt := 23) rfl ?_
    refine lv_iconst (v := 0) hx hb d_LW_function_23 (by decide) ?_
    exact tw_iret (w1 := tw_w qo ad cI cL cZ) (u9, vp_updL z.2 0 (r9.toInt64)) X h (Or.inl ⟨rfl, r9, hp9, rfl⟩) d_LW_function_24
abbrev y_LW_call : MethodName := { cls := "TrimmedMachineLaw", name := "call", desc := "(LTrimmedMachine;II[J)I" }
abbrev b_LW_call : ByteArray := method_6_code
abbrev hh_LW_call : List (Nat × Nat × Nat × Nat) := [(0, 10, 13, 18), (0, 10, 17, 13)]
theorem d_LW_call_0 : decode b_LW_call 0 = .ok (.aload_n 3, 1) := by decide +kernel
theorem d_LW_call_1 : decode b_LW_call 1 = .ok (.iconst 0, 1) := by decide +kernel
theorem d_LW_call_2 : decode b_LW_call 2 = .ok (.aload_n 0, 1) := by decide +kernel
theorem d_LW_call_3 : decode b_LW_call 3 = .ok (.iload_n 1, 1) := by decide +kernel
theorem d_LW_call_4 : decode b_LW_call 4 = .ok (.iload_n 2, 1) := by decide +kernel
theorem d_LW_call_5 : decode b_LW_call 5 = .ok (.invokevirtual 24, 3) := by decide +kernel
theorem d_LW_call_8 : decode b_LW_call 8 = .ok (.i2l, 1) := by decide +kernel
theorem d_LW_call_9 : decode b_LW_call 9 = .ok (.lastore, 1) := by decide +kernel
theorem d_LW_call_10 : decode b_LW_call 10 = .ok (.goto 11, 3) := by decide +kernel
theorem d_LW_call_13 : decode b_LW_call 13 = .ok (.astore 4, 2) := by decide +kernel
theorem d_LW_call_15 : decode b_LW_call 15 = .ok (.iconst 1, 1) := by decide +kernel
theorem d_LW_call_16 : decode b_LW_call 16 = .ok (.ireturn, 1) := by decide +kernel
theorem d_LW_call_17 : decode b_LW_call 17 = .ok (.astore 4, 2) := by decide +kernel
theorem d_LW_call_19 : decode b_LW_call 19 = .ok (.iconst 2, 1) := by decide +kernel
theorem d_LW_call_20 : decode b_LW_call 20 = .ok (.ireturn, 1) := by decide +kernel
theorem d_LW_call_21 : decode b_LW_call 21 = .ok (.iconst 0, 1) := by decide +kernel
theorem d_LW_call_22 : decode b_LW_call 22 = .ok (.ireturn, 1) := by decide +kernel
set_option maxHeartbeats 4000000 in
set_option maxRecDepth 100000 in
theorem c_LW_call (l : Launch) (D : va_G) (cI cL cZ : ClassId) (ad : Nat → Nat) (qo : Nat) (p0 : Int32) (p1 : Int32) (z : tw_S) (P : Int32 → tm_SC → Prop) (PX : String → tm_SC → Prop) (hK : tx_I l y_TM_call b_TM_call 5 .int ({ frames := 8, cells := 1, slots := 6, locals := 133 } : Room) D (tm_yC cI cL cZ) (tm_wC ad cI cL cZ) [.ref (ad 0), .int p0, .int p1] z.1 P PX) (hX : ∀ E v, PX E v → E = "java/lang/IllegalArgumentException" ∨ E = "java/lang/IllegalStateException") (sz : Nat) : Met l y_LW_call (Cond.codeWith y_LW_call b_LW_call 5 (some .int) hh_LW_call :: tm_wa) ({ frames := 9, cells := 1, slots := 6, locals := 157 } : Room) (va_Pc [.ref (ad 0), .int p0, .int p1, .ref qo] (tw_Pre D (tm_yC cI cL cZ) (tw_w qo ad cI cL cZ z) sz)) (va_Qi (fun (k : Int32) (z' : tw_S) => (k = 0 ∧ ∃ r, P r z'.1 ∧ z'.2 = vp_updL z.2 0 r.toInt64) ∨ (∃ E, PX E z'.1 ∧ k = tw_code [("java/lang/IllegalArgumentException", 1), ("java/lang/IllegalStateException", 2)] E ∧ z'.2 = z.2)) (fun z' t => tm_B D (tm_yC cI cL cZ) (va_A (tw_w qo ad cI cL cZ z) sz) (tw_w qo ad cI cL cZ z') t) (va_A (tw_w qo ad cI cL cZ z) sz)) 1 6 (va_A (tw_w qo ad cI cL cZ z) sz) := by
  refine tw_of (Qc := fun A => va_Qi (fun (k : Int32) (z' : tw_S) => (k = 0 ∧ ∃ r, P r z'.1 ∧ z'.2 = vp_updL z.2 0 r.toInt64) ∨ (∃ E, PX E z'.1 ∧ k = tw_code [("java/lang/IllegalArgumentException", 1), ("java/lang/IllegalStateException", 2)] E ∧ z'.2 = z.2)) (fun z' t => tm_B D (tm_yC cI cL cZ) A (tw_w qo ad cI cL cZ z') t) A) (by decide) (Nat.le_of_ble_eq_true rfl) ?_ sz
  intro pg eg sg mg bel met cg A ls X h hl hE hNc htab
  have hx := X.1.1
  have hb := X.1.2.1
  have hl : lv_has ls 5 [(0, .ref (ad 0)), (1, .int p0), (2, .int p1), (3, .ref qo)] := hl
  refine lv_aload_n hx hb d_LW_call_0 rfl (lv_at hl 3 rfl) ?_
  refine lv_iconst (v := 0) hx hb d_LW_call_1 (by decide) ?_
  refine lv_aload_n hx hb d_LW_call_2 rfl (lv_at hl 0 rfl) ?_
  refine lv_iload_n hx hb d_LW_call_3 rfl (lv_at hl 1 rfl) ?_
  refine lv_iload_n hx hb d_LW_call_4 rfl (lv_at hl 2 rfl) ?_
  refine tx_jI (wc := tm_wC ad cI cL cZ z.1) (wr := [(qo, .inl (cL, 1, .inr (.inl z.2)))]) (w := tm_wC ad cI cL cZ) X h [1, 2, 3, 4, 5, 6, 7, 8, 9, 10, 11, 12, 13, 14, 15, 16, 17, 18] [0] rfl rfl (by decide) (by decide) (tx_rV (q0 := 0) X (tm_cut (wc := tm_wC ad cI cL cZ z.1) h [1, 2, 3, 4, 5, 6, 7, 8, 9, 10, 11, 12, 13, 14, 15, 16, 17, 18] rfl (by decide) rfl) hE (hK _) ki_TM_call kw_305 rfl rfl rfl rfl rfl ⟨by decide, by decide⟩ rfl hl.1 rfl (Nat.le_of_ble_eq_true rfl) d_LW_call_5 ⟨by decide, by decide⟩) (fun E9 u9 q9 ce9 H locs hx9 h e91 e92 e93 => ?_) (fun r9 u9 H locs hp9 h => ?_)
  · have h : tm_H D A sg (tw_w qo ad cI cL cZ (u9, z.2)) _ _ := h
    rcases hX E9 u9 hx9 with e0 | e0
    · subst e0
      refine tw_catch (E := "java/lang/IllegalArgumentException") (pre := []) (x := (0, 10, 13, 18)) (suf := [(0, 10, 17, 13)]) X hNc htab rfl (fun z hz => absurd hz List.not_mem_nil) (by decide) (by decide) (by decide) kw_260 kw_271 e91 e92 e93 ?_
      refine lv_astore hx hb d_LW_call_13 hl (by decide) rfl (fun ls hl => ?_)
      refine lv_iconst (v := 1) hx hb d_LW_call_15 (by decide) ?_
      exact tw_iret (w1 := tw_w qo ad cI cL cZ) (u9, z.2) X h (Or.inr ⟨_, hx9, rfl, rfl⟩) d_LW_call_16
    · subst e0
      refine tw_catch (E := "java/lang/IllegalStateException") (pre := [(0, 10, 13, 18)]) (x := (0, 10, 17, 13)) (suf := []) X hNc htab rfl (fun z hz => by simp only [List.mem_cons, List.not_mem_nil, or_false] at hz; subst hz; exact ⟨by decide, _, kw_260, by decide⟩) (by decide) (by decide) (by decide) kw_179 kw_190 e91 e92 e93 ?_
      refine lv_astore hx hb d_LW_call_17 hl (by decide) rfl (fun ls hl => ?_)
      refine lv_iconst (v := 2) hx hb d_LW_call_19 (by decide) ?_
      exact tw_iret (w1 := tw_w qo ad cI cL cZ) (u9, z.2) X h (Or.inr ⟨_, hx9, rfl, rfl⟩) d_LW_call_20
  · have h : tm_H D A sg (tw_w qo ad cI cL cZ (u9, z.2)) _ _ := h
    refine W.widen (k := 1) (n := 6) (by decide) (by decide) ?_
    refine lv_i2l hx hb d_LW_call_8 rfl ?_
    refine tm_last X h 0 1 rfl rfl 0 (by decide) rfl (by decide) (ws' := tw_w qo ad cI cL cZ (u9, vp_updL z.2 0 (r9.toInt64))) rfl d_LW_call_9 (fun H locs h => ?_)
    refine lv_goto hx hb d_LW_call_10 (tgt := 21) rfl ?_
    refine lv_iconst (v := 0) hx hb d_LW_call_21 (by decide) ?_
    exact tw_iret (w1 := tw_w qo ad cI cL cZ) (u9, vp_updL z.2 0 (r9.toInt64)) X h (Or.inl ⟨rfl, r9, hp9, rfl⟩) d_LW_call_22
abbrev y_LW_operation : MethodName := { cls := "TrimmedMachineLaw", name := "operation", desc := "(LTrimmedMachine;III[J)I" }
abbrev b_LW_operation : ByteArray := method_7_code
abbrev hh_LW_operation : List (Nat × Nat × Nat × Nat) := [(0, 12, 15, 18), (0, 12, 19, 13)]
theorem d_LW_operation_0 : decode b_LW_operation 0 = .ok (.aload 4, 2) := by decide +kernel
theorem d_LW_operation_2 : decode b_LW_operation 2 = .ok (.iconst 0, 1) := by decide +kernel
theorem d_LW_operation_3 : decode b_LW_operation 3 = .ok (.aload_n 0, 1) := by decide +kernel
theorem d_LW_operation_4 : decode b_LW_operation 4 = .ok (.iload_n 1, 1) := by decide +kernel
theorem d_LW_operation_5 : decode b_LW_operation 5 = .ok (.iload_n 2, 1) := by decide +kernel
theorem d_LW_operation_6 : decode b_LW_operation 6 = .ok (.iload_n 3, 1) := by decide +kernel
theorem d_LW_operation_7 : decode b_LW_operation 7 = .ok (.invokevirtual 28, 3) := by decide +kernel
theorem d_LW_operation_10 : decode b_LW_operation 10 = .ok (.i2l, 1) := by decide +kernel
theorem d_LW_operation_11 : decode b_LW_operation 11 = .ok (.lastore, 1) := by decide +kernel
theorem d_LW_operation_12 : decode b_LW_operation 12 = .ok (.goto 11, 3) := by decide +kernel
theorem d_LW_operation_15 : decode b_LW_operation 15 = .ok (.astore 5, 2) := by decide +kernel
theorem d_LW_operation_17 : decode b_LW_operation 17 = .ok (.iconst 1, 1) := by decide +kernel
theorem d_LW_operation_18 : decode b_LW_operation 18 = .ok (.ireturn, 1) := by decide +kernel
theorem d_LW_operation_19 : decode b_LW_operation 19 = .ok (.astore 5, 2) := by decide +kernel
theorem d_LW_operation_21 : decode b_LW_operation 21 = .ok (.iconst 2, 1) := by decide +kernel
theorem d_LW_operation_22 : decode b_LW_operation 22 = .ok (.ireturn, 1) := by decide +kernel
theorem d_LW_operation_23 : decode b_LW_operation 23 = .ok (.iconst 0, 1) := by decide +kernel
theorem d_LW_operation_24 : decode b_LW_operation 24 = .ok (.ireturn, 1) := by decide +kernel
set_option maxHeartbeats 4000000 in
set_option maxRecDepth 100000 in
theorem c_LW_operation (l : Launch) (D : va_G) (cI cL cZ : ClassId) (ad : Nat → Nat) (qo : Nat) (p0 : Int32) (p1 : Int32) (p2 : Int32) (z : tw_S) (P : Int32 → tm_SC → Prop) (PX : String → tm_SC → Prop) (hK : tx_I l y_TM_operation b_TM_operation 6 .int ({ frames := 8, cells := 1, slots := 6, locals := 133 } : Room) D (tm_yC cI cL cZ) (tm_wC ad cI cL cZ) [.ref (ad 0), .int p0, .int p1, .int p2] z.1 P PX) (hX : ∀ E v, PX E v → E = "java/lang/IllegalArgumentException" ∨ E = "java/lang/IllegalStateException") (sz : Nat) : Met l y_LW_operation (Cond.codeWith y_LW_operation b_LW_operation 6 (some .int) hh_LW_operation :: tm_wa) ({ frames := 9, cells := 1, slots := 6, locals := 158 } : Room) (va_Pc [.ref (ad 0), .int p0, .int p1, .int p2, .ref qo] (tw_Pre D (tm_yC cI cL cZ) (tw_w qo ad cI cL cZ z) sz)) (va_Qi (fun (k : Int32) (z' : tw_S) => (k = 0 ∧ ∃ r, P r z'.1 ∧ z'.2 = vp_updL z.2 0 r.toInt64) ∨ (∃ E, PX E z'.1 ∧ k = tw_code [("java/lang/IllegalArgumentException", 1), ("java/lang/IllegalStateException", 2)] E ∧ z'.2 = z.2)) (fun z' t => tm_B D (tm_yC cI cL cZ) (va_A (tw_w qo ad cI cL cZ z) sz) (tw_w qo ad cI cL cZ z') t) (va_A (tw_w qo ad cI cL cZ z) sz)) 1 6 (va_A (tw_w qo ad cI cL cZ z) sz) := by
  refine tw_of (Qc := fun A => va_Qi (fun (k : Int32) (z' : tw_S) => (k = 0 ∧ ∃ r, P r z'.1 ∧ z'.2 = vp_updL z.2 0 r.toInt64) ∨ (∃ E, PX E z'.1 ∧ k = tw_code [("java/lang/IllegalArgumentException", 1), ("java/lang/IllegalStateException", 2)] E ∧ z'.2 = z.2)) (fun z' t => tm_B D (tm_yC cI cL cZ) A (tw_w qo ad cI cL cZ z') t) A) (by decide) (Nat.le_of_ble_eq_true rfl) ?_ sz
  intro pg eg sg mg bel met cg A ls X h hl hE hNc htab
  have hx := X.1.1
  have hb := X.1.2.1
  have hl : lv_has ls 6 [(0, .ref (ad 0)), (1, .int p0), (2, .int p1), (3, .int p2), (4, .ref qo)] := hl
  refine lv_aload hx hb d_LW_operation_0 (lv_at hl 4 rfl) ?_
  refine lv_iconst (v := 0) hx hb d_LW_operation_2 (by decide) ?_
  refine lv_aload_n hx hb d_LW_operation_3 rfl (lv_at hl 0 rfl) ?_
  refine lv_iload_n hx hb d_LW_operation_4 rfl (lv_at hl 1 rfl) ?_
  refine lv_iload_n hx hb d_LW_operation_5 rfl (lv_at hl 2 rfl) ?_
  refine lv_iload_n hx hb d_LW_operation_6 rfl (lv_at hl 3 rfl) ?_
  refine tx_jI (wc := tm_wC ad cI cL cZ z.1) (wr := [(qo, .inl (cL, 1, .inr (.inl z.2)))]) (w := tm_wC ad cI cL cZ) X h [1, 2, 3, 4, 5, 6, 7, 8, 9, 10, 11, 12, 13, 14, 15, 16, 17, 18] [0] rfl rfl (by decide) (by decide) (tx_rV (q0 := 0) X (tm_cut (wc := tm_wC ad cI cL cZ z.1) h [1, 2, 3, 4, 5, 6, 7, 8, 9, 10, 11, 12, 13, 14, 15, 16, 17, 18] rfl (by decide) rfl) hE (hK _) ki_TM_operation kw_315 rfl rfl rfl rfl rfl ⟨by decide, by decide⟩ rfl hl.1 rfl (Nat.le_of_ble_eq_true rfl) d_LW_operation_7 ⟨by decide, by decide⟩) (fun E9 u9 q9 ce9 H locs hx9 h e91 e92 e93 => ?_) (fun r9 u9 H locs hp9 h => ?_)
  · have h : tm_H D A sg (tw_w qo ad cI cL cZ (u9, z.2)) _ _ := h
    rcases hX E9 u9 hx9 with e0 | e0
    · subst e0
      refine tw_catch (E := "java/lang/IllegalArgumentException") (pre := []) (x := (0, 12, 15, 18)) (suf := [(0, 12, 19, 13)]) X hNc htab rfl (fun z hz => absurd hz List.not_mem_nil) (by decide) (by decide) (by decide) kw_260 kw_271 e91 e92 e93 ?_
      refine lv_astore hx hb d_LW_operation_15 hl (by decide) rfl (fun ls hl => ?_)
      refine lv_iconst (v := 1) hx hb d_LW_operation_17 (by decide) ?_
      exact tw_iret (w1 := tw_w qo ad cI cL cZ) (u9, z.2) X h (Or.inr ⟨_, hx9, rfl, rfl⟩) d_LW_operation_18
    · subst e0
      refine tw_catch (E := "java/lang/IllegalStateException") (pre := [(0, 12, 15, 18)]) (x := (0, 12, 19, 13)) (suf := []) X hNc htab rfl (fun z hz => by simp only [List.mem_cons, List.not_mem_nil, or_false] at hz; subst hz; exact ⟨by decide, _, kw_260, by decide⟩) (by decide) (by decide) (by decide) kw_179 kw_190 e91 e92 e93 ?_
      refine lv_astore hx hb d_LW_operation_19 hl (by decide) rfl (fun ls hl => ?_)
      refine lv_iconst (v := 2) hx hb d_LW_operation_21 (by decide) ?_
      exact tw_iret (w1 := tw_w qo ad cI cL cZ) (u9, z.2) X h (Or.inr ⟨_, hx9, rfl, rfl⟩) d_LW_operation_22
  · have h : tm_H D A sg (tw_w qo ad cI cL cZ (u9, z.2)) _ _ := h
    refine W.widen (k := 1) (n := 6) (by decide) (by decide) ?_
    refine lv_i2l hx hb d_LW_operation_10 rfl ?_
    refine tm_last X h 0 1 rfl rfl 0 (by decide) rfl (by decide) (ws' := tw_w qo ad cI cL cZ (u9, vp_updL z.2 0 (r9.toInt64))) rfl d_LW_operation_11 (fun H locs h => ?_)
    refine lv_goto hx hb d_LW_operation_12 (tgt := 23) rfl ?_
    refine lv_iconst (v := 0) hx hb d_LW_operation_23 (by decide) ?_
    exact tw_iret (w1 := tw_w qo ad cI cL cZ) (u9, vp_updL z.2 0 (r9.toInt64)) X h (Or.inl ⟨rfl, r9, hp9, rfl⟩) d_LW_operation_24
abbrev y_LW_choice : MethodName := { cls := "TrimmedMachineLaw", name := "choice", desc := "(LTrimmedMachine;III[J)I" }
abbrev b_LW_choice : ByteArray := method_8_code
abbrev hh_LW_choice : List (Nat × Nat × Nat × Nat) := [(0, 12, 15, 18), (0, 12, 19, 13)]
theorem d_LW_choice_0 : decode b_LW_choice 0 = .ok (.aload 4, 2) := by decide +kernel
theorem d_LW_choice_2 : decode b_LW_choice 2 = .ok (.iconst 0, 1) := by decide +kernel
theorem d_LW_choice_3 : decode b_LW_choice 3 = .ok (.aload_n 0, 1) := by decide +kernel
theorem d_LW_choice_4 : decode b_LW_choice 4 = .ok (.iload_n 1, 1) := by decide +kernel
theorem d_LW_choice_5 : decode b_LW_choice 5 = .ok (.iload_n 2, 1) := by decide +kernel
theorem d_LW_choice_6 : decode b_LW_choice 6 = .ok (.iload_n 3, 1) := by decide +kernel
theorem d_LW_choice_7 : decode b_LW_choice 7 = .ok (.invokevirtual 31, 3) := by decide +kernel
theorem d_LW_choice_10 : decode b_LW_choice 10 = .ok (.i2l, 1) := by decide +kernel
theorem d_LW_choice_11 : decode b_LW_choice 11 = .ok (.lastore, 1) := by decide +kernel
theorem d_LW_choice_12 : decode b_LW_choice 12 = .ok (.goto 11, 3) := by decide +kernel
theorem d_LW_choice_15 : decode b_LW_choice 15 = .ok (.astore 5, 2) := by decide +kernel
theorem d_LW_choice_17 : decode b_LW_choice 17 = .ok (.iconst 1, 1) := by decide +kernel
theorem d_LW_choice_18 : decode b_LW_choice 18 = .ok (.ireturn, 1) := by decide +kernel
theorem d_LW_choice_19 : decode b_LW_choice 19 = .ok (.astore 5, 2) := by decide +kernel
theorem d_LW_choice_21 : decode b_LW_choice 21 = .ok (.iconst 2, 1) := by decide +kernel
theorem d_LW_choice_22 : decode b_LW_choice 22 = .ok (.ireturn, 1) := by decide +kernel
theorem d_LW_choice_23 : decode b_LW_choice 23 = .ok (.iconst 0, 1) := by decide +kernel
theorem d_LW_choice_24 : decode b_LW_choice 24 = .ok (.ireturn, 1) := by decide +kernel
set_option maxHeartbeats 4000000 in
set_option maxRecDepth 100000 in
theorem c_LW_choice (l : Launch) (D : va_G) (cI cL cZ : ClassId) (ad : Nat → Nat) (qo : Nat) (p0 : Int32) (p1 : Int32) (p2 : Int32) (z : tw_S) (P : Int32 → tm_SC → Prop) (PX : String → tm_SC → Prop) (hK : tx_I l y_TM_choice b_TM_choice 6 .int ({ frames := 8, cells := 1, slots := 6, locals := 133 } : Room) D (tm_yC cI cL cZ) (tm_wC ad cI cL cZ) [.ref (ad 0), .int p0, .int p1, .int p2] z.1 P PX) (hX : ∀ E v, PX E v → E = "java/lang/IllegalArgumentException" ∨ E = "java/lang/IllegalStateException") (sz : Nat) : Met l y_LW_choice (Cond.codeWith y_LW_choice b_LW_choice 6 (some .int) hh_LW_choice :: tm_wa) ({ frames := 9, cells := 1, slots := 6, locals := 158 } : Room) (va_Pc [.ref (ad 0), .int p0, .int p1, .int p2, .ref qo] (tw_Pre D (tm_yC cI cL cZ) (tw_w qo ad cI cL cZ z) sz)) (va_Qi (fun (k : Int32) (z' : tw_S) => (k = 0 ∧ ∃ r, P r z'.1 ∧ z'.2 = vp_updL z.2 0 r.toInt64) ∨ (∃ E, PX E z'.1 ∧ k = tw_code [("java/lang/IllegalArgumentException", 1), ("java/lang/IllegalStateException", 2)] E ∧ z'.2 = z.2)) (fun z' t => tm_B D (tm_yC cI cL cZ) (va_A (tw_w qo ad cI cL cZ z) sz) (tw_w qo ad cI cL cZ z') t) (va_A (tw_w qo ad cI cL cZ z) sz)) 1 6 (va_A (tw_w qo ad cI cL cZ z) sz) := by
  refine tw_of (Qc := fun A => va_Qi (fun (k : Int32) (z' : tw_S) => (k = 0 ∧ ∃ r, P r z'.1 ∧ z'.2 = vp_updL z.2 0 r.toInt64) ∨ (∃ E, PX E z'.1 ∧ k = tw_code [("java/lang/IllegalArgumentException", 1), ("java/lang/IllegalStateException", 2)] E ∧ z'.2 = z.2)) (fun z' t => tm_B D (tm_yC cI cL cZ) A (tw_w qo ad cI cL cZ z') t) A) (by decide) (Nat.le_of_ble_eq_true rfl) ?_ sz
  intro pg eg sg mg bel met cg A ls X h hl hE hNc htab
  have hx := X.1.1
  have hb := X.1.2.1
  have hl : lv_has ls 6 [(0, .ref (ad 0)), (1, .int p0), (2, .int p1), (3, .int p2), (4, .ref qo)] := hl
  refine lv_aload hx hb d_LW_choice_0 (lv_at hl 4 rfl) ?_
  refine lv_iconst (v := 0) hx hb d_LW_choice_2 (by decide) ?_
  refine lv_aload_n hx hb d_LW_choice_3 rfl (lv_at hl 0 rfl) ?_
  refine lv_iload_n hx hb d_LW_choice_4 rfl (lv_at hl 1 rfl) ?_
  refine lv_iload_n hx hb d_LW_choice_5 rfl (lv_at hl 2 rfl) ?_
  refine lv_iload_n hx hb d_LW_choice_6 rfl (lv_at hl 3 rfl) ?_
  refine tx_jI (wc := tm_wC ad cI cL cZ z.1) (wr := [(qo, .inl (cL, 1, .inr (.inl z.2)))]) (w := tm_wC ad cI cL cZ) X h [1, 2, 3, 4, 5, 6, 7, 8, 9, 10, 11, 12, 13, 14, 15, 16, 17, 18] [0] rfl rfl (by decide) (by decide) (tx_rV (q0 := 0) X (tm_cut (wc := tm_wC ad cI cL cZ z.1) h [1, 2, 3, 4, 5, 6, 7, 8, 9, 10, 11, 12, 13, 14, 15, 16, 17, 18] rfl (by decide) rfl) hE (hK _) ki_TM_choice kw_323 rfl rfl rfl rfl rfl ⟨by decide, by decide⟩ rfl hl.1 rfl (Nat.le_of_ble_eq_true rfl) d_LW_choice_7 ⟨by decide, by decide⟩) (fun E9 u9 q9 ce9 H locs hx9 h e91 e92 e93 => ?_) (fun r9 u9 H locs hp9 h => ?_)
  · have h : tm_H D A sg (tw_w qo ad cI cL cZ (u9, z.2)) _ _ := h
    rcases hX E9 u9 hx9 with e0 | e0
    · subst e0
      refine tw_catch (E := "java/lang/IllegalArgumentException") (pre := []) (x := (0, 12, 15, 18)) (suf := [(0, 12, 19, 13)]) X hNc htab rfl (fun z hz => absurd hz List.not_mem_nil) (by decide) (by decide) (by decide) kw_260 kw_271 e91 e92 e93 ?_
      refine lv_astore hx hb d_LW_choice_15 hl (by decide) rfl (fun ls hl => ?_)
      refine lv_iconst (v := 1) hx hb d_LW_choice_17 (by decide) ?_
      exact tw_iret (w1 := tw_w qo ad cI cL cZ) (u9, z.2) X h (Or.inr ⟨_, hx9, rfl, rfl⟩) d_LW_choice_18
    · subst e0
      refine tw_catch (E := "java/lang/IllegalStateException") (pre := [(0, 12, 15, 18)]) (x := (0, 12, 19, 13)) (suf := []) X hNc htab rfl (fun z hz => by simp only [List.mem_cons, List.not_mem_nil, or_false] at hz; subst hz; exact ⟨by decide, _, kw_260, by decide⟩) (by decide) (by decide) (by decide) kw_179 kw_190 e91 e92 e93 ?_
      refine lv_astore hx hb d_LW_choice_19 hl (by decide) rfl (fun ls hl => ?_)
      refine lv_iconst (v := 2) hx hb d_LW_choice_21 (by decide) ?_
      exact tw_iret (w1 := tw_w qo ad cI cL cZ) (u9, z.2) X h (Or.inr ⟨_, hx9, rfl, rfl⟩) d_LW_choice_22
  · have h : tm_H D A sg (tw_w qo ad cI cL cZ (u9, z.2)) _ _ := h
    refine W.widen (k := 1) (n := 6) (by decide) (by decide) ?_
    refine lv_i2l hx hb d_LW_choice_10 rfl ?_
    refine tm_last X h 0 1 rfl rfl 0 (by decide) rfl (by decide) (ws' := tw_w qo ad cI cL cZ (u9, vp_updL z.2 0 (r9.toInt64))) rfl d_LW_choice_11 (fun H locs h => ?_)
    refine lv_goto hx hb d_LW_choice_12 (tgt := 23) rfl ?_
    refine lv_iconst (v := 0) hx hb d_LW_choice_23 (by decide) ?_
    exact tw_iret (w1 := tw_w qo ad cI cL cZ) (u9, vp_updL z.2 0 (r9.toInt64)) X h (Or.inl ⟨rfl, r9, hp9, rfl⟩) d_LW_choice_24
abbrev y_LW_free : MethodName := { cls := "TrimmedMachineLaw", name := "free", desc := "(LTrimmedMachine;I[J)I" }
abbrev b_LW_free : ByteArray := method_9_code
abbrev hh_LW_free : List (Nat × Nat × Nat × Nat) := [(0, 9, 12, 18)]
theorem d_LW_free_0 : decode b_LW_free 0 = .ok (.aload_n 2, 1) := by decide +kernel
theorem d_LW_free_1 : decode b_LW_free 1 = .ok (.iconst 0, 1) := by decide +kernel
theorem d_LW_free_2 : decode b_LW_free 2 = .ok (.aload_n 0, 1) := by decide +kernel
theorem d_LW_free_3 : decode b_LW_free 3 = .ok (.iload_n 1, 1) := by decide +kernel
theorem d_LW_free_4 : decode b_LW_free 4 = .ok (.invokevirtual 34, 3) := by decide +kernel
theorem d_LW_free_7 : decode b_LW_free 7 = .ok (.i2l, 1) := by decide +kernel
theorem d_LW_free_8 : decode b_LW_free 8 = .ok (.lastore, 1) := by decide +kernel
theorem d_LW_free_9 : decode b_LW_free 9 = .ok (.goto 6, 3) := by decide +kernel
theorem d_LW_free_12 : decode b_LW_free 12 = .ok (.astore_n 3, 1) := by decide +kernel
theorem d_LW_free_13 : decode b_LW_free 13 = .ok (.iconst 1, 1) := by decide +kernel
theorem d_LW_free_14 : decode b_LW_free 14 = .ok (.ireturn, 1) := by decide +kernel
theorem d_LW_free_15 : decode b_LW_free 15 = .ok (.iconst 0, 1) := by decide +kernel
theorem d_LW_free_16 : decode b_LW_free 16 = .ok (.ireturn, 1) := by decide +kernel
set_option maxHeartbeats 4000000 in
set_option maxRecDepth 100000 in
theorem c_LW_free (l : Launch) (D : va_G) (cI cL cZ : ClassId) (ad : Nat → Nat) (qo : Nat) (p0 : Int32) (z : tw_S) (P : Int32 → tm_SC → Prop) (PX : String → tm_SC → Prop) (hK : tx_I l y_TM_free b_TM_free 2 .int ({ frames := 7, cells := 1, slots := 6, locals := 111 } : Room) D (tm_yC cI cL cZ) (tm_wC ad cI cL cZ) [.ref (ad 0), .int p0] z.1 P PX) (hX : ∀ E v, PX E v → E = "java/lang/IllegalArgumentException") (sz : Nat) : Met l y_LW_free (Cond.codeWith y_LW_free b_LW_free 4 (some .int) hh_LW_free :: tm_wa) ({ frames := 8, cells := 1, slots := 6, locals := 132 } : Room) (va_Pc [.ref (ad 0), .int p0, .ref qo] (tw_Pre D (tm_yC cI cL cZ) (tw_w qo ad cI cL cZ z) sz)) (va_Qi (fun (k : Int32) (z' : tw_S) => (k = 0 ∧ ∃ r, P r z'.1 ∧ z'.2 = vp_updL z.2 0 r.toInt64) ∨ (∃ E, PX E z'.1 ∧ k = tw_code [("java/lang/IllegalArgumentException", 1)] E ∧ z'.2 = z.2)) (fun z' t => tm_B D (tm_yC cI cL cZ) (va_A (tw_w qo ad cI cL cZ z) sz) (tw_w qo ad cI cL cZ z') t) (va_A (tw_w qo ad cI cL cZ z) sz)) 1 6 (va_A (tw_w qo ad cI cL cZ z) sz) := by
  refine tw_of (Qc := fun A => va_Qi (fun (k : Int32) (z' : tw_S) => (k = 0 ∧ ∃ r, P r z'.1 ∧ z'.2 = vp_updL z.2 0 r.toInt64) ∨ (∃ E, PX E z'.1 ∧ k = tw_code [("java/lang/IllegalArgumentException", 1)] E ∧ z'.2 = z.2)) (fun z' t => tm_B D (tm_yC cI cL cZ) A (tw_w qo ad cI cL cZ z') t) A) (by decide) (Nat.le_of_ble_eq_true rfl) ?_ sz
  intro pg eg sg mg bel met cg A ls X h hl hE hNc htab
  have hx := X.1.1
  have hb := X.1.2.1
  have hl : lv_has ls 4 [(0, .ref (ad 0)), (1, .int p0), (2, .ref qo)] := hl
  refine lv_aload_n hx hb d_LW_free_0 rfl (lv_at hl 2 rfl) ?_
  refine lv_iconst (v := 0) hx hb d_LW_free_1 (by decide) ?_
  refine lv_aload_n hx hb d_LW_free_2 rfl (lv_at hl 0 rfl) ?_
  refine lv_iload_n hx hb d_LW_free_3 rfl (lv_at hl 1 rfl) ?_
  refine tx_jI (wc := tm_wC ad cI cL cZ z.1) (wr := [(qo, .inl (cL, 1, .inr (.inl z.2)))]) (w := tm_wC ad cI cL cZ) X h [1, 2, 3, 4, 5, 6, 7, 8, 9, 10, 11, 12, 13, 14, 15, 16, 17, 18] [0] rfl rfl (by decide) (by decide) (tx_rV (q0 := 0) X (tm_cut (wc := tm_wC ad cI cL cZ z.1) h [1, 2, 3, 4, 5, 6, 7, 8, 9, 10, 11, 12, 13, 14, 15, 16, 17, 18] rfl (by decide) rfl) hE (hK _) ki_TM_free kw_330 rfl rfl rfl rfl rfl ⟨by decide, by decide⟩ rfl hl.1 rfl (Nat.le_of_ble_eq_true rfl) d_LW_free_4 ⟨by decide, by decide⟩) (fun E9 u9 q9 ce9 H locs hx9 h e91 e92 e93 => ?_) (fun r9 u9 H locs hp9 h => ?_)
  · have h : tm_H D A sg (tw_w qo ad cI cL cZ (u9, z.2)) _ _ := h
    have e0 := hX E9 u9 hx9
    subst e0
    refine tw_catch (E := "java/lang/IllegalArgumentException") (pre := []) (x := (0, 9, 12, 18)) (suf := []) X hNc htab rfl (fun z hz => absurd hz List.not_mem_nil) (by decide) (by decide) (by decide) kw_260 kw_271 e91 e92 e93 ?_
    refine lv_astore_n hx hb d_LW_free_12 rfl hl (by decide) rfl (fun ls hl => ?_)
    refine lv_iconst (v := 1) hx hb d_LW_free_13 (by decide) ?_
    exact tw_iret (w1 := tw_w qo ad cI cL cZ) (u9, z.2) X h (Or.inr ⟨_, hx9, rfl, rfl⟩) d_LW_free_14
  · have h : tm_H D A sg (tw_w qo ad cI cL cZ (u9, z.2)) _ _ := h
    refine W.widen (k := 1) (n := 6) (by decide) (by decide) ?_
    refine lv_i2l hx hb d_LW_free_7 rfl ?_
    refine tm_last X h 0 1 rfl rfl 0 (by decide) rfl (by decide) (ws' := tw_w qo ad cI cL cZ (u9, vp_updL z.2 0 (r9.toInt64))) rfl d_LW_free_8 (fun H locs h => ?_)
    refine lv_goto hx hb d_LW_free_9 (tgt := 15) rfl ?_
    refine lv_iconst (v := 0) hx hb d_LW_free_15 (by decide) ?_
    exact tw_iret (w1 := tw_w qo ad cI cL cZ) (u9, vp_updL z.2 0 (r9.toInt64)) X h (Or.inl ⟨rfl, r9, hp9, rfl⟩) d_LW_free_16
abbrev y_LW_begin : MethodName := { cls := "TrimmedMachineLaw", name := "begin", desc := "(LTrimmedMachine;II)I" }
abbrev b_LW_begin : ByteArray := method_10_code
abbrev hh_LW_begin : List (Nat × Nat × Nat × Nat) := [(0, 6, 9, 18)]
theorem d_LW_begin_0 : decode b_LW_begin 0 = .ok (.aload_n 0, 1) := by decide +kernel
theorem d_LW_begin_1 : decode b_LW_begin 1 = .ok (.iload_n 1, 1) := by decide +kernel
theorem d_LW_begin_2 : decode b_LW_begin 2 = .ok (.iload_n 2, 1) := by decide +kernel
theorem d_LW_begin_3 : decode b_LW_begin 3 = .ok (.invokevirtual 37, 3) := by decide +kernel
theorem d_LW_begin_6 : decode b_LW_begin 6 = .ok (.goto 6, 3) := by decide +kernel
theorem d_LW_begin_9 : decode b_LW_begin 9 = .ok (.astore_n 3, 1) := by decide +kernel
theorem d_LW_begin_10 : decode b_LW_begin 10 = .ok (.iconst 1, 1) := by decide +kernel
theorem d_LW_begin_11 : decode b_LW_begin 11 = .ok (.ireturn, 1) := by decide +kernel
theorem d_LW_begin_12 : decode b_LW_begin 12 = .ok (.iconst 0, 1) := by decide +kernel
theorem d_LW_begin_13 : decode b_LW_begin 13 = .ok (.ireturn, 1) := by decide +kernel
set_option maxHeartbeats 4000000 in
set_option maxRecDepth 100000 in
theorem c_LW_begin (l : Launch) (D : va_G) (cI cL cZ : ClassId) (ad : Nat → Nat) (qo : Nat) (p0 : Int32) (p1 : Int32) (z : tw_S) (P : tm_SC → Prop) (PX : String → tm_SC → Prop) (hK : tx_V l y_TM_begin b_TM_begin 3 ({ frames := 7, cells := 1, slots := 6, locals := 111 } : Room) D (tm_yC cI cL cZ) (tm_wC ad cI cL cZ) [.ref (ad 0), .int p0, .int p1] z.1 P PX) (hX : ∀ E v, PX E v → E = "java/lang/IllegalArgumentException") (sz : Nat) : Met l y_LW_begin (Cond.codeWith y_LW_begin b_LW_begin 4 (some .int) hh_LW_begin :: tm_wa) ({ frames := 8, cells := 1, slots := 6, locals := 133 } : Room) (va_Pc [.ref (ad 0), .int p0, .int p1] (tw_Pre D (tm_yC cI cL cZ) (tw_w qo ad cI cL cZ z) sz)) (va_Qi (fun (k : Int32) (z' : tw_S) => (k = 0 ∧ P z'.1 ∧ z'.2 = z.2) ∨ (∃ E, PX E z'.1 ∧ k = tw_code [("java/lang/IllegalArgumentException", 1)] E ∧ z'.2 = z.2)) (fun z' t => tm_B D (tm_yC cI cL cZ) (va_A (tw_w qo ad cI cL cZ z) sz) (tw_w qo ad cI cL cZ z') t) (va_A (tw_w qo ad cI cL cZ z) sz)) 1 6 (va_A (tw_w qo ad cI cL cZ z) sz) := by
  refine tw_of (Qc := fun A => va_Qi (fun (k : Int32) (z' : tw_S) => (k = 0 ∧ P z'.1 ∧ z'.2 = z.2) ∨ (∃ E, PX E z'.1 ∧ k = tw_code [("java/lang/IllegalArgumentException", 1)] E ∧ z'.2 = z.2)) (fun z' t => tm_B D (tm_yC cI cL cZ) A (tw_w qo ad cI cL cZ z') t) A) (by decide) (Nat.le_of_ble_eq_true rfl) ?_ sz
  intro pg eg sg mg bel met cg A ls X h hl hE hNc htab
  have hx := X.1.1
  have hb := X.1.2.1
  have hl : lv_has ls 4 [(0, .ref (ad 0)), (1, .int p0), (2, .int p1)] := hl
  refine lv_aload_n hx hb d_LW_begin_0 rfl (lv_at hl 0 rfl) ?_
  refine lv_iload_n hx hb d_LW_begin_1 rfl (lv_at hl 1 rfl) ?_
  refine lv_iload_n hx hb d_LW_begin_2 rfl (lv_at hl 2 rfl) ?_
  refine tx_jV (wc := tm_wC ad cI cL cZ z.1) (wr := [(qo, .inl (cL, 1, .inr (.inl z.2)))]) (w := tm_wC ad cI cL cZ) X h [1, 2, 3, 4, 5, 6, 7, 8, 9, 10, 11, 12, 13, 14, 15, 16, 17, 18] [0] rfl rfl (by decide) (by decide) (tx_rV (q0 := 0) X (tm_cut (wc := tm_wC ad cI cL cZ z.1) h [1, 2, 3, 4, 5, 6, 7, 8, 9, 10, 11, 12, 13, 14, 15, 16, 17, 18] rfl (by decide) rfl) hE (hK _) ki_TM_begin kw_337 rfl rfl rfl rfl rfl ⟨by decide, by decide⟩ rfl hl.1 rfl (Nat.le_of_ble_eq_true rfl) d_LW_begin_3 ⟨by decide, by decide⟩) (fun E9 u9 q9 ce9 H locs hx9 h e91 e92 e93 => ?_) (fun u9 H locs hp9 h => ?_)
  · have h : tm_H D A sg (tw_w qo ad cI cL cZ (u9, z.2)) _ _ := h
    have e0 := hX E9 u9 hx9
    subst e0
    refine tw_catch (E := "java/lang/IllegalArgumentException") (pre := []) (x := (0, 6, 9, 18)) (suf := []) X hNc htab rfl (fun z hz => absurd hz List.not_mem_nil) (by decide) (by decide) (by decide) kw_260 kw_271 e91 e92 e93 ?_
    refine lv_astore_n hx hb d_LW_begin_9 rfl hl (by decide) rfl (fun ls hl => ?_)
    refine lv_iconst (v := 1) hx hb d_LW_begin_10 (by decide) ?_
    exact tw_iret (w1 := tw_w qo ad cI cL cZ) (u9, z.2) X h (Or.inr ⟨_, hx9, rfl, rfl⟩) d_LW_begin_11
  · have h : tm_H D A sg (tw_w qo ad cI cL cZ (u9, z.2)) _ _ := h
    refine W.widen (k := 1) (n := 6) (by decide) (by decide) ?_
    refine lv_goto hx hb d_LW_begin_6 (tgt := 12) rfl ?_
    refine lv_iconst (v := 0) hx hb d_LW_begin_12 (by decide) ?_
    exact tw_iret (w1 := tw_w qo ad cI cL cZ) (u9, z.2) X h (Or.inl ⟨rfl, hp9, rfl⟩) d_LW_begin_13
abbrev y_LW_steps : MethodName := { cls := "TrimmedMachineLaw", name := "steps", desc := "(LTrimmedMachine;I[J)I" }
abbrev b_LW_steps : ByteArray := method_11_code
abbrev hh_LW_steps : List (Nat × Nat × Nat × Nat) := [(0, 9, 12, 18), (0, 9, 15, 44), (0, 9, 18, 46), (0, 9, 21, 13)]
theorem d_LW_steps_0 : decode b_LW_steps 0 = .ok (.aload_n 2, 1) := by decide +kernel
theorem d_LW_steps_1 : decode b_LW_steps 1 = .ok (.iconst 0, 1) := by decide +kernel
theorem d_LW_steps_2 : decode b_LW_steps 2 = .ok (.aload_n 0, 1) := by decide +kernel
theorem d_LW_steps_3 : decode b_LW_steps 3 = .ok (.iload_n 1, 1) := by decide +kernel
theorem d_LW_steps_4 : decode b_LW_steps 4 = .ok (.invokevirtual 41, 3) := by decide +kernel
theorem d_LW_steps_7 : decode b_LW_steps 7 = .ok (.i2l, 1) := by decide +kernel
theorem d_LW_steps_8 : decode b_LW_steps 8 = .ok (.lastore, 1) := by decide +kernel
theorem d_LW_steps_9 : decode b_LW_steps 9 = .ok (.goto 15, 3) := by decide +kernel
theorem d_LW_steps_12 : decode b_LW_steps 12 = .ok (.astore_n 3, 1) := by decide +kernel
theorem d_LW_steps_13 : decode b_LW_steps 13 = .ok (.iconst 1, 1) := by decide +kernel
theorem d_LW_steps_14 : decode b_LW_steps 14 = .ok (.ireturn, 1) := by decide +kernel
theorem d_LW_steps_15 : decode b_LW_steps 15 = .ok (.astore_n 3, 1) := by decide +kernel
theorem d_LW_steps_16 : decode b_LW_steps 16 = .ok (.iconst 2, 1) := by decide +kernel
theorem d_LW_steps_17 : decode b_LW_steps 17 = .ok (.ireturn, 1) := by decide +kernel
theorem d_LW_steps_18 : decode b_LW_steps 18 = .ok (.astore_n 3, 1) := by decide +kernel
theorem d_LW_steps_19 : decode b_LW_steps 19 = .ok (.iconst 3, 1) := by decide +kernel
theorem d_LW_steps_20 : decode b_LW_steps 20 = .ok (.ireturn, 1) := by decide +kernel
theorem d_LW_steps_21 : decode b_LW_steps 21 = .ok (.astore_n 3, 1) := by decide +kernel
theorem d_LW_steps_22 : decode b_LW_steps 22 = .ok (.iconst 4, 1) := by decide +kernel
theorem d_LW_steps_23 : decode b_LW_steps 23 = .ok (.ireturn, 1) := by decide +kernel
theorem d_LW_steps_24 : decode b_LW_steps 24 = .ok (.iconst 0, 1) := by decide +kernel
theorem d_LW_steps_25 : decode b_LW_steps 25 = .ok (.ireturn, 1) := by decide +kernel
set_option maxHeartbeats 4000000 in
set_option maxRecDepth 100000 in
theorem c_LW_steps (l : Launch) (D : va_G) (cI cL cZ : ClassId) (ad : Nat → Nat) (qo : Nat) (p0 : Int32) (z : tw_S) (P : Int32 → tm_SC → Prop) (PX : String → tm_SC → Prop) (hK : tx_I l y_TM_steps b_TM_steps 3 .int ({ frames := 12, cells := 1, slots := 6, locals := 280 } : Room) D (tm_yC cI cL cZ) (tm_wC ad cI cL cZ) [.ref (ad 0), .int p0] z.1 P PX) (hX : ∀ E v, PX E v → E = "java/lang/IllegalArgumentException" ∨ E = "java/util/NoSuchElementException" ∨ E = "java/lang/UnsupportedOperationException" ∨ E = "java/lang/IllegalStateException") (sz : Nat) : Met l y_LW_steps (Cond.codeWith y_LW_steps b_LW_steps 4 (some .int) hh_LW_steps :: tm_wa) ({ frames := 13, cells := 1, slots := 6, locals := 302 } : Room) (va_Pc [.ref (ad 0), .int p0, .ref qo] (tw_Pre D (tm_yC cI cL cZ) (tw_w qo ad cI cL cZ z) sz)) (va_Qi (fun (k : Int32) (z' : tw_S) => (k = 0 ∧ ∃ r, P r z'.1 ∧ z'.2 = vp_updL z.2 0 r.toInt64) ∨ (∃ E, PX E z'.1 ∧ k = tw_code [("java/lang/IllegalArgumentException", 1), ("java/util/NoSuchElementException", 2), ("java/lang/UnsupportedOperationException", 3), ("java/lang/IllegalStateException", 4)] E ∧ z'.2 = z.2)) (fun z' t => tm_B D (tm_yC cI cL cZ) (va_A (tw_w qo ad cI cL cZ z) sz) (tw_w qo ad cI cL cZ z') t) (va_A (tw_w qo ad cI cL cZ z) sz)) 1 6 (va_A (tw_w qo ad cI cL cZ z) sz) := by
  refine tw_of (Qc := fun A => va_Qi (fun (k : Int32) (z' : tw_S) => (k = 0 ∧ ∃ r, P r z'.1 ∧ z'.2 = vp_updL z.2 0 r.toInt64) ∨ (∃ E, PX E z'.1 ∧ k = tw_code [("java/lang/IllegalArgumentException", 1), ("java/util/NoSuchElementException", 2), ("java/lang/UnsupportedOperationException", 3), ("java/lang/IllegalStateException", 4)] E ∧ z'.2 = z.2)) (fun z' t => tm_B D (tm_yC cI cL cZ) A (tw_w qo ad cI cL cZ z') t) A) (by decide) (Nat.le_of_ble_eq_true rfl) ?_ sz
  intro pg eg sg mg bel met cg A ls X h hl hE hNc htab
  have hx := X.1.1
  have hb := X.1.2.1
  have hl : lv_has ls 4 [(0, .ref (ad 0)), (1, .int p0), (2, .ref qo)] := hl
  refine lv_aload_n hx hb d_LW_steps_0 rfl (lv_at hl 2 rfl) ?_
  refine lv_iconst (v := 0) hx hb d_LW_steps_1 (by decide) ?_
  refine lv_aload_n hx hb d_LW_steps_2 rfl (lv_at hl 0 rfl) ?_
  refine lv_iload_n hx hb d_LW_steps_3 rfl (lv_at hl 1 rfl) ?_
  refine tx_jI (wc := tm_wC ad cI cL cZ z.1) (wr := [(qo, .inl (cL, 1, .inr (.inl z.2)))]) (w := tm_wC ad cI cL cZ) X h [1, 2, 3, 4, 5, 6, 7, 8, 9, 10, 11, 12, 13, 14, 15, 16, 17, 18] [0] rfl rfl (by decide) (by decide) (tx_rV (q0 := 0) X (tm_cut (wc := tm_wC ad cI cL cZ z.1) h [1, 2, 3, 4, 5, 6, 7, 8, 9, 10, 11, 12, 13, 14, 15, 16, 17, 18] rfl (by decide) rfl) hE (hK _) ki_TM_steps kw_406 rfl rfl rfl rfl rfl ⟨by decide, by decide⟩ rfl hl.1 rfl (Nat.le_of_ble_eq_true rfl) d_LW_steps_4 ⟨by decide, by decide⟩) (fun E9 u9 q9 ce9 H locs hx9 h e91 e92 e93 => ?_) (fun r9 u9 H locs hp9 h => ?_)
  · have h : tm_H D A sg (tw_w qo ad cI cL cZ (u9, z.2)) _ _ := h
    rcases hX E9 u9 hx9 with e0 | e0 | e0 | e0
    · subst e0
      refine tw_catch (E := "java/lang/IllegalArgumentException") (pre := []) (x := (0, 9, 12, 18)) (suf := [(0, 9, 15, 44), (0, 9, 18, 46), (0, 9, 21, 13)]) X hNc htab rfl (fun z hz => absurd hz List.not_mem_nil) (by decide) (by decide) (by decide) kw_260 kw_271 e91 e92 e93 ?_
      refine lv_astore_n hx hb d_LW_steps_12 rfl hl (by decide) rfl (fun ls hl => ?_)
      refine lv_iconst (v := 1) hx hb d_LW_steps_13 (by decide) ?_
      exact tw_iret (w1 := tw_w qo ad cI cL cZ) (u9, z.2) X h (Or.inr ⟨_, hx9, rfl, rfl⟩) d_LW_steps_14
    · subst e0
      refine tw_catch (E := "java/util/NoSuchElementException") (pre := [(0, 9, 12, 18)]) (x := (0, 9, 15, 44)) (suf := [(0, 9, 18, 46), (0, 9, 21, 13)]) X hNc htab rfl (fun z hz => by simp only [List.mem_cons, List.not_mem_nil, or_false] at hz; subst hz; exact ⟨by decide, _, kw_260, by decide⟩) (by decide) (by decide) (by decide) kw_404 kw_437 e91 e92 e93 ?_
      refine lv_astore_n hx hb d_LW_steps_15 rfl hl (by decide) rfl (fun ls hl => ?_)
      refine lv_iconst (v := 2) hx hb d_LW_steps_16 (by decide) ?_
      exact tw_iret (w1 := tw_w qo ad cI cL cZ) (u9, z.2) X h (Or.inr ⟨_, hx9, rfl, rfl⟩) d_LW_steps_17
    · subst e0
      refine tw_catch (E := "java/lang/UnsupportedOperationException") (pre := [(0, 9, 12, 18), (0, 9, 15, 44)]) (x := (0, 9, 18, 46)) (suf := [(0, 9, 21, 13)]) X hNc htab rfl (fun z hz => by simp only [List.mem_cons, List.not_mem_nil, or_false] at hz; rcases hz with rfl | rfl <;> first | exact ⟨by decide, _, kw_260, by decide⟩ | exact ⟨by decide, _, kw_404, by decide⟩) (by decide) (by decide) (by decide) kw_405 kw_506 e91 e92 e93 ?_
      refine lv_astore_n hx hb d_LW_steps_18 rfl hl (by decide) rfl (fun ls hl => ?_)
      refine lv_iconst (v := 3) hx hb d_LW_steps_19 (by decide) ?_
      exact tw_iret (w1 := tw_w qo ad cI cL cZ) (u9, z.2) X h (Or.inr ⟨_, hx9, rfl, rfl⟩) d_LW_steps_20
    · subst e0
      refine tw_catch (E := "java/lang/IllegalStateException") (pre := [(0, 9, 12, 18), (0, 9, 15, 44), (0, 9, 18, 46)]) (x := (0, 9, 21, 13)) (suf := []) X hNc htab rfl (fun z hz => by simp only [List.mem_cons, List.not_mem_nil, or_false] at hz; rcases hz with rfl | rfl | rfl <;> first | exact ⟨by decide, _, kw_260, by decide⟩ | exact ⟨by decide, _, kw_404, by decide⟩ | exact ⟨by decide, _, kw_405, by decide⟩) (by decide) (by decide) (by decide) kw_179 kw_190 e91 e92 e93 ?_
      refine lv_astore_n hx hb d_LW_steps_21 rfl hl (by decide) rfl (fun ls hl => ?_)
      refine lv_iconst (v := 4) hx hb d_LW_steps_22 (by decide) ?_
      exact tw_iret (w1 := tw_w qo ad cI cL cZ) (u9, z.2) X h (Or.inr ⟨_, hx9, rfl, rfl⟩) d_LW_steps_23
  · have h : tm_H D A sg (tw_w qo ad cI cL cZ (u9, z.2)) _ _ := h
    refine W.widen (k := 1) (n := 6) (by decide) (by decide) ?_
    refine lv_i2l hx hb d_LW_steps_7 rfl ?_
    refine tm_last X h 0 1 rfl rfl 0 (by decide) rfl (by decide) (ws' := tw_w qo ad cI cL cZ (u9, vp_updL z.2 0 (r9.toInt64))) rfl d_LW_steps_8 (fun H locs h => ?_)
    refine lv_goto hx hb d_LW_steps_9 (tgt := 24) rfl ?_
    refine lv_iconst (v := 0) hx hb d_LW_steps_24 (by decide) ?_
    exact tw_iret (w1 := tw_w qo ad cI cL cZ) (u9, vp_updL z.2 0 (r9.toInt64)) X h (Or.inl ⟨rfl, r9, hp9, rfl⟩) d_LW_steps_25
abbrev y_LW_result : MethodName := { cls := "TrimmedMachineLaw", name := "result", desc := "(LTrimmedMachine;[J)I" }
abbrev b_LW_result : ByteArray := method_12_code
abbrev hh_LW_result : List (Nat × Nat × Nat × Nat) := [(0, 8, 11, 13)]
theorem d_LW_result_0 : decode b_LW_result 0 = .ok (.aload_n 1, 1) := by decide +kernel
theorem d_LW_result_1 : decode b_LW_result 1 = .ok (.iconst 0, 1) := by decide +kernel
theorem d_LW_result_2 : decode b_LW_result 2 = .ok (.aload_n 0, 1) := by decide +kernel
theorem d_LW_result_3 : decode b_LW_result 3 = .ok (.invokevirtual 48, 3) := by decide +kernel
theorem d_LW_result_6 : decode b_LW_result 6 = .ok (.i2l, 1) := by decide +kernel
theorem d_LW_result_7 : decode b_LW_result 7 = .ok (.lastore, 1) := by decide +kernel
theorem d_LW_result_8 : decode b_LW_result 8 = .ok (.goto 6, 3) := by decide +kernel
theorem d_LW_result_11 : decode b_LW_result 11 = .ok (.astore_n 2, 1) := by decide +kernel
theorem d_LW_result_12 : decode b_LW_result 12 = .ok (.iconst 1, 1) := by decide +kernel
theorem d_LW_result_13 : decode b_LW_result 13 = .ok (.ireturn, 1) := by decide +kernel
theorem d_LW_result_14 : decode b_LW_result 14 = .ok (.iconst 0, 1) := by decide +kernel
theorem d_LW_result_15 : decode b_LW_result 15 = .ok (.ireturn, 1) := by decide +kernel
set_option maxHeartbeats 4000000 in
set_option maxRecDepth 100000 in
theorem c_LW_result (l : Launch) (D : va_G) (cI cL cZ : ClassId) (ad : Nat → Nat) (qo : Nat)  (z : tw_S) (P : Int32 → tm_SC → Prop) (PX : String → tm_SC → Prop) (hK : tx_I l y_TM_result b_TM_result 1 .int ({ frames := 7, cells := 1, slots := 6, locals := 110 } : Room) D (tm_yC cI cL cZ) (tm_wC ad cI cL cZ) [.ref (ad 0)] z.1 P PX) (hX : ∀ E v, PX E v → E = "java/lang/IllegalStateException") (sz : Nat) : Met l y_LW_result (Cond.codeWith y_LW_result b_LW_result 3 (some .int) hh_LW_result :: tm_wa) ({ frames := 8, cells := 1, slots := 6, locals := 130 } : Room) (va_Pc [.ref (ad 0), .ref qo] (tw_Pre D (tm_yC cI cL cZ) (tw_w qo ad cI cL cZ z) sz)) (va_Qi (fun (k : Int32) (z' : tw_S) => (k = 0 ∧ ∃ r, P r z'.1 ∧ z'.2 = vp_updL z.2 0 r.toInt64) ∨ (∃ E, PX E z'.1 ∧ k = tw_code [("java/lang/IllegalStateException", 1)] E ∧ z'.2 = z.2)) (fun z' t => tm_B D (tm_yC cI cL cZ) (va_A (tw_w qo ad cI cL cZ z) sz) (tw_w qo ad cI cL cZ z') t) (va_A (tw_w qo ad cI cL cZ z) sz)) 1 6 (va_A (tw_w qo ad cI cL cZ z) sz) := by
  refine tw_of (Qc := fun A => va_Qi (fun (k : Int32) (z' : tw_S) => (k = 0 ∧ ∃ r, P r z'.1 ∧ z'.2 = vp_updL z.2 0 r.toInt64) ∨ (∃ E, PX E z'.1 ∧ k = tw_code [("java/lang/IllegalStateException", 1)] E ∧ z'.2 = z.2)) (fun z' t => tm_B D (tm_yC cI cL cZ) A (tw_w qo ad cI cL cZ z') t) A) (by decide) (Nat.le_of_ble_eq_true rfl) ?_ sz
  intro pg eg sg mg bel met cg A ls X h hl hE hNc htab
  have hx := X.1.1
  have hb := X.1.2.1
  have hl : lv_has ls 3 [(0, .ref (ad 0)), (1, .ref qo)] := hl
  refine lv_aload_n hx hb d_LW_result_0 rfl (lv_at hl 1 rfl) ?_
  refine lv_iconst (v := 0) hx hb d_LW_result_1 (by decide) ?_
  refine lv_aload_n hx hb d_LW_result_2 rfl (lv_at hl 0 rfl) ?_
  refine tx_jI (wc := tm_wC ad cI cL cZ z.1) (wr := [(qo, .inl (cL, 1, .inr (.inl z.2)))]) (w := tm_wC ad cI cL cZ) X h [1, 2, 3, 4, 5, 6, 7, 8, 9, 10, 11, 12, 13, 14, 15, 16, 17, 18] [0] rfl rfl (by decide) (by decide) (tx_rV (q0 := 0) X (tm_cut (wc := tm_wC ad cI cL cZ z.1) h [1, 2, 3, 4, 5, 6, 7, 8, 9, 10, 11, 12, 13, 14, 15, 16, 17, 18] rfl (by decide) rfl) hE (hK _) ki_TM_result kw_550 rfl rfl rfl rfl rfl ⟨by decide, by decide⟩ rfl hl.1 rfl (Nat.le_of_ble_eq_true rfl) d_LW_result_3 ⟨by decide, by decide⟩) (fun E9 u9 q9 ce9 H locs hx9 h e91 e92 e93 => ?_) (fun r9 u9 H locs hp9 h => ?_)
  · have h : tm_H D A sg (tw_w qo ad cI cL cZ (u9, z.2)) _ _ := h
    have e0 := hX E9 u9 hx9
    subst e0
    refine tw_catch (E := "java/lang/IllegalStateException") (pre := []) (x := (0, 8, 11, 13)) (suf := []) X hNc htab rfl (fun z hz => absurd hz List.not_mem_nil) (by decide) (by decide) (by decide) kw_179 kw_190 e91 e92 e93 ?_
    refine lv_astore_n hx hb d_LW_result_11 rfl hl (by decide) rfl (fun ls hl => ?_)
    refine lv_iconst (v := 1) hx hb d_LW_result_12 (by decide) ?_
    exact tw_iret (w1 := tw_w qo ad cI cL cZ) (u9, z.2) X h (Or.inr ⟨_, hx9, rfl, rfl⟩) d_LW_result_13
  · have h : tm_H D A sg (tw_w qo ad cI cL cZ (u9, z.2)) _ _ := h
    refine W.widen (k := 1) (n := 6) (by decide) (by decide) ?_
    refine lv_i2l hx hb d_LW_result_6 rfl ?_
    refine tm_last X h 0 1 rfl rfl 0 (by decide) rfl (by decide) (ws' := tw_w qo ad cI cL cZ (u9, vp_updL z.2 0 (r9.toInt64))) rfl d_LW_result_7 (fun H locs h => ?_)
    refine lv_goto hx hb d_LW_result_8 (tgt := 14) rfl ?_
    refine lv_iconst (v := 0) hx hb d_LW_result_14 (by decide) ?_
    exact tw_iret (w1 := tw_w qo ad cI cL cZ) (u9, vp_updL z.2 0 (r9.toInt64)) X h (Or.inl ⟨rfl, r9, hp9, rfl⟩) d_LW_result_15
abbrev y_LW_isClosure : MethodName := { cls := "TrimmedMachineLaw", name := "isClosure", desc := "(LTrimmedMachine;[J)I" }
abbrev b_LW_isClosure : ByteArray := method_13_code
abbrev hh_LW_isClosure : List (Nat × Nat × Nat × Nat) := [(0, 15, 18, 13)]
theorem d_LW_isClosure_0 : decode b_LW_isClosure 0 = .ok (.aload_n 1, 1) := by decide +kernel
theorem d_LW_isClosure_1 : decode b_LW_isClosure 1 = .ok (.iconst 0, 1) := by decide +kernel
theorem d_LW_isClosure_2 : decode b_LW_isClosure 2 = .ok (.aload_n 0, 1) := by decide +kernel
theorem d_LW_isClosure_3 : decode b_LW_isClosure 3 = .ok (.invokevirtual 52, 3) := by decide +kernel
theorem d_LW_isClosure_6 : decode b_LW_isClosure 6 = .ok (.ifCond .eq 7, 3) := by decide +kernel
theorem d_LW_isClosure_9 : decode b_LW_isClosure 9 = .ok (.lconst 1, 1) := by decide +kernel
theorem d_LW_isClosure_10 : decode b_LW_isClosure 10 = .ok (.goto 4, 3) := by decide +kernel
theorem d_LW_isClosure_13 : decode b_LW_isClosure 13 = .ok (.lconst 0, 1) := by decide +kernel
theorem d_LW_isClosure_14 : decode b_LW_isClosure 14 = .ok (.lastore, 1) := by decide +kernel
theorem d_LW_isClosure_15 : decode b_LW_isClosure 15 = .ok (.goto 6, 3) := by decide +kernel
theorem d_LW_isClosure_18 : decode b_LW_isClosure 18 = .ok (.astore_n 2, 1) := by decide +kernel
theorem d_LW_isClosure_19 : decode b_LW_isClosure 19 = .ok (.iconst 1, 1) := by decide +kernel
theorem d_LW_isClosure_20 : decode b_LW_isClosure 20 = .ok (.ireturn, 1) := by decide +kernel
theorem d_LW_isClosure_21 : decode b_LW_isClosure 21 = .ok (.iconst 0, 1) := by decide +kernel
theorem d_LW_isClosure_22 : decode b_LW_isClosure 22 = .ok (.ireturn, 1) := by decide +kernel
set_option maxHeartbeats 4000000 in
set_option maxRecDepth 100000 in
theorem c_LW_isClosure (l : Launch) (D : va_G) (cI cL cZ : ClassId) (ad : Nat → Nat) (qo : Nat)  (z : tw_S) (P : Int32 → tm_SC → Prop) (PX : String → tm_SC → Prop) (hK : tx_I l y_TM_isClosure b_TM_isClosure 1 .boolean ({ frames := 7, cells := 1, slots := 6, locals := 110 } : Room) D (tm_yC cI cL cZ) (tm_wC ad cI cL cZ) [.ref (ad 0)] z.1 P PX) (hX : ∀ E v, PX E v → E = "java/lang/IllegalStateException") (sz : Nat) : Met l y_LW_isClosure (Cond.codeWith y_LW_isClosure b_LW_isClosure 3 (some .int) hh_LW_isClosure :: tm_wa) ({ frames := 8, cells := 1, slots := 6, locals := 130 } : Room) (va_Pc [.ref (ad 0), .ref qo] (tw_Pre D (tm_yC cI cL cZ) (tw_w qo ad cI cL cZ z) sz)) (va_Qi (fun (k : Int32) (z' : tw_S) => (k = 0 ∧ ∃ r, P r z'.1 ∧ z'.2 = vp_updL z.2 0 (if r = 0 then 0 else 1)) ∨ (∃ E, PX E z'.1 ∧ k = tw_code [("java/lang/IllegalStateException", 1)] E ∧ z'.2 = z.2)) (fun z' t => tm_B D (tm_yC cI cL cZ) (va_A (tw_w qo ad cI cL cZ z) sz) (tw_w qo ad cI cL cZ z') t) (va_A (tw_w qo ad cI cL cZ z) sz)) 1 6 (va_A (tw_w qo ad cI cL cZ z) sz) := by
  refine tw_of (Qc := fun A => va_Qi (fun (k : Int32) (z' : tw_S) => (k = 0 ∧ ∃ r, P r z'.1 ∧ z'.2 = vp_updL z.2 0 (if r = 0 then 0 else 1)) ∨ (∃ E, PX E z'.1 ∧ k = tw_code [("java/lang/IllegalStateException", 1)] E ∧ z'.2 = z.2)) (fun z' t => tm_B D (tm_yC cI cL cZ) A (tw_w qo ad cI cL cZ z') t) A) (by decide) (Nat.le_of_ble_eq_true rfl) ?_ sz
  intro pg eg sg mg bel met cg A ls X h hl hE hNc htab
  have hx := X.1.1
  have hb := X.1.2.1
  have hl : lv_has ls 3 [(0, .ref (ad 0)), (1, .ref qo)] := hl
  refine lv_aload_n hx hb d_LW_isClosure_0 rfl (lv_at hl 1 rfl) ?_
  refine lv_iconst (v := 0) hx hb d_LW_isClosure_1 (by decide) ?_
  refine lv_aload_n hx hb d_LW_isClosure_2 rfl (lv_at hl 0 rfl) ?_
  refine tx_jI (wc := tm_wC ad cI cL cZ z.1) (wr := [(qo, .inl (cL, 1, .inr (.inl z.2)))]) (w := tm_wC ad cI cL cZ) X h [1, 2, 3, 4, 5, 6, 7, 8, 9, 10, 11, 12, 13, 14, 15, 16, 17, 18] [0] rfl rfl (by decide) (by decide) (tx_rV (q0 := 0) X (tm_cut (wc := tm_wC ad cI cL cZ z.1) h [1, 2, 3, 4, 5, 6, 7, 8, 9, 10, 11, 12, 13, 14, 15, 16, 17, 18] rfl (by decide) rfl) hE (hK _) ki_TM_isClosure kw_562 rfl rfl rfl rfl rfl ⟨by decide, by decide⟩ rfl hl.1 rfl (Nat.le_of_ble_eq_true rfl) d_LW_isClosure_3 ⟨by decide, by decide⟩) (fun E9 u9 q9 ce9 H locs hx9 h e91 e92 e93 => ?_) (fun r9 u9 H locs hp9 h => ?_)
  · have h : tm_H D A sg (tw_w qo ad cI cL cZ (u9, z.2)) _ _ := h
    have e0 := hX E9 u9 hx9
    subst e0
    refine tw_catch (E := "java/lang/IllegalStateException") (pre := []) (x := (0, 15, 18, 13)) (suf := []) X hNc htab rfl (fun z hz => absurd hz List.not_mem_nil) (by decide) (by decide) (by decide) kw_179 kw_190 e91 e92 e93 ?_
    refine lv_astore_n hx hb d_LW_isClosure_18 rfl hl (by decide) rfl (fun ls hl => ?_)
    refine lv_iconst (v := 1) hx hb d_LW_isClosure_19 (by decide) ?_
    exact tw_iret (w1 := tw_w qo ad cI cL cZ) (u9, z.2) X h (Or.inr ⟨_, hx9, rfl, rfl⟩) d_LW_isClosure_20
  · have h : tm_H D A sg (tw_w qo ad cI cL cZ (u9, z.2)) _ _ := h
    refine W.widen (k := 1) (n := 6) (by decide) (by decide) ?_
    refine lv_if_eq hx hb d_LW_isClosure_6 (tgt := 13) rfl (fun ht => ?_) (fun hf => ?_)
    · refine lv_lconst (v := 0) hx hb d_LW_isClosure_13 (by decide) ?_
      refine tm_last X h 0 1 rfl rfl 0 (by decide) rfl (by decide) (ws' := tw_w qo ad cI cL cZ (u9, vp_updL z.2 0 (0))) rfl d_LW_isClosure_14 (fun H locs h => ?_)
      refine lv_goto hx hb d_LW_isClosure_15 (tgt := 21) rfl ?_
      refine lv_iconst (v := 0) hx hb d_LW_isClosure_21 (by decide) ?_
      exact tw_iret (w1 := tw_w qo ad cI cL cZ) (u9, vp_updL z.2 0 (0)) X h (Or.inl ⟨rfl, r9, hp9, (congrArg (vp_updL z.2 0) (if_pos ht).symm)⟩) d_LW_isClosure_22
    · refine lv_lconst (v := 1) hx hb d_LW_isClosure_9 (by decide) ?_
      refine lv_goto hx hb d_LW_isClosure_10 (tgt := 14) rfl ?_
      refine tm_last X h 0 1 rfl rfl 0 (by decide) rfl (by decide) (ws' := tw_w qo ad cI cL cZ (u9, vp_updL z.2 0 (1))) rfl d_LW_isClosure_14 (fun H locs h => ?_)
      refine lv_goto hx hb d_LW_isClosure_15 (tgt := 21) rfl ?_
      refine lv_iconst (v := 0) hx hb d_LW_isClosure_21 (by decide) ?_
      exact tw_iret (w1 := tw_w qo ad cI cL cZ) (u9, vp_updL z.2 0 (1)) X h (Or.inl ⟨rfl, r9, hp9, (congrArg (vp_updL z.2 0) (if_neg hf).symm)⟩) d_LW_isClosure_22
