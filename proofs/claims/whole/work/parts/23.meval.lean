theorem kw_582 : (Jvm.Cond.fieldLink "TrimmedMachineModel" (38 : Nat) "TrimmedMachineModel" "functionOf" "[I") ∈ tm_wa := tm_tb (List.mem_append_right _ (List.mem_append_right _ (List.mem_append_left _ (List.mem_of_getElem? (i := 102) (by decide +kernel))))) rfl
theorem kw_592 : (Jvm.Cond.fieldLink "TrimmedMachineModel" (131 : Nat) "TrimmedMachineModel" "expression" "I") ∈ tm_wa := tm_tb (List.mem_append_right _ (List.mem_append_right _ (List.mem_append_left _ (List.mem_of_getElem? (i := 112) (by decide +kernel))))) rfl
theorem kw_597 : (Jvm.Cond.fieldLink "TrimmedMachineModel" (50 : Nat) "TrimmedMachineModel" "first" "[I") ∈ tm_wa := tm_tb (List.mem_append_right _ (List.mem_append_right _ (List.mem_append_left _ (List.mem_of_getElem? (i := 117) (by decide +kernel))))) rfl
theorem kw_598 : (Jvm.Cond.fieldLink "TrimmedMachineModel" (53 : Nat) "TrimmedMachineModel" "second" "[I") ∈ tm_wa := tm_tb (List.mem_append_right _ (List.mem_append_right _ (List.mem_append_left _ (List.mem_of_getElem? (i := 118) (by decide +kernel))))) rfl
theorem kw_601 : (Jvm.Cond.fieldLink "TrimmedMachineModel" (148 : Nat) "TrimmedMachineModel" "trap" "I") ∈ tm_wa := tm_tb (List.mem_append_right _ (List.mem_append_right _ (List.mem_append_left _ (List.mem_of_getElem? (i := 121) (by decide +kernel))))) rfl
theorem kw_754 : (Jvm.Cond.methodLink "TrimmedMachineModel" (159 : Nat) ({ cls := "TrimmedMachineModel", name := "evaluateIn", desc := "(II)V" } : Jvm.MethodName)) ∈ tm_wa := tm_tb (List.mem_append_right _ (List.mem_append_right _ (List.mem_append_right _ (List.mem_of_getElem? (i := 34) (by decide +kernel))))) rfl
theorem kw_756 : (Jvm.Cond.instanceMethod ({ cls := "TrimmedMachineModel", name := "evaluateIn", desc := "(II)V" } : Jvm.MethodName)) ∈ tm_wa := tm_tb (List.mem_append_right _ (List.mem_append_right _ (List.mem_append_right _ (List.mem_of_getElem? (i := 36) (by decide +kernel))))) rfl
theorem kw_757 : (Jvm.Cond.code ({ cls := "TrimmedMachineModel", name := "evaluateIn", desc := "(II)V" } : Jvm.MethodName) prog_8_method_26_code (3 : Nat) (Option.none : Option Jvm.ClassFile.FieldType)) ∈ tm_wa := tm_tb (List.mem_append_right _ (List.mem_append_right _ (List.mem_append_right _ (List.mem_of_getElem? (i := 37) (rfl))))) rfl
theorem kw_758 : (Jvm.Cond.methodLink "TrimmedMachineModel" (140 : Nat) ({ cls := "TrimmedMachineModel", name := "copy", desc := "(III)V" } : Jvm.MethodName)) ∈ tm_wa := tm_tb (List.mem_append_right _ (List.mem_append_right _ (List.mem_append_right _ (List.mem_of_getElem? (i := 38) (by decide +kernel))))) rfl
theorem kw_763 : (Jvm.Cond.static ({ cls := "TrimmedMachineModel", name := "operated", desc := "(III)I" } : Jvm.MethodName)) ∈ tm_wa := tm_tb (List.mem_append_right _ (List.mem_append_right _ (List.mem_append_right _ (List.mem_of_getElem? (i := 43) (by decide +kernel))))) rfl
theorem kw_764 : (Jvm.Cond.code ({ cls := "TrimmedMachineModel", name := "operated", desc := "(III)I" } : Jvm.MethodName) prog_8_method_29_code (3 : Nat) (Option.some Jvm.ClassFile.FieldType.int)) ∈ tm_wa := tm_tb (List.mem_append_right _ (List.mem_append_right _ (List.mem_append_right _ (List.mem_of_getElem? (i := 44) (rfl))))) rfl
theorem kw_765 : (Jvm.Cond.methodLink "TrimmedMachineModel" (144 : Nat) ({ cls := "TrimmedMachineModel", name := "giveBack", desc := "(IZ)V" } : Jvm.MethodName)) ∈ tm_wa := tm_tb (List.mem_append_right _ (List.mem_append_right _ (List.mem_append_right _ (List.mem_of_getElem? (i := 45) (by decide +kernel))))) rfl
theorem kw_767 : (Jvm.Cond.instanceMethod ({ cls := "TrimmedMachineModel", name := "giveBack", desc := "(IZ)V" } : Jvm.MethodName)) ∈ tm_wa := tm_tb (List.mem_append_right _ (List.mem_append_right _ (List.mem_append_right _ (List.mem_of_getElem? (i := 47) (by decide +kernel))))) rfl
theorem kw_768 : (Jvm.Cond.code ({ cls := "TrimmedMachineModel", name := "giveBack", desc := "(IZ)V" } : Jvm.MethodName) prog_8_method_24_code (3 : Nat) (Option.none : Option Jvm.ClassFile.FieldType)) ∈ tm_wa := tm_tb (List.mem_append_right _ (List.mem_append_right _ (List.mem_append_right _ (List.mem_of_getElem? (i := 48) (rfl))))) rfl
theorem kw_771 : (Jvm.Cond.instanceMethod ({ cls := "TrimmedMachineModel", name := "apply", desc := "(IIZ)V" } : Jvm.MethodName)) ∈ tm_wa := tm_tb (List.mem_append_right _ (List.mem_append_right _ (List.mem_append_right _ (List.mem_of_getElem? (i := 51) (by decide +kernel))))) rfl
theorem kw_772 : (Jvm.Cond.code ({ cls := "TrimmedMachineModel", name := "apply", desc := "(IIZ)V" } : Jvm.MethodName) prog_8_method_30_code (5 : Nat) (Option.none : Option Jvm.ClassFile.FieldType)) ∈ tm_wa := tm_tb (List.mem_append_right _ (List.mem_append_right _ (List.mem_append_right _ (List.mem_of_getElem? (i := 52) (rfl))))) rfl
theorem kw_773 : (Jvm.Cond.methodLink "TrimmedMachineModel" (163 : Nat) ({ cls := "TrimmedMachineModel", name := "give", desc := "(IIIZ)V" } : Jvm.MethodName)) ∈ tm_wa := tm_tb (List.mem_append_right _ (List.mem_append_right _ (List.mem_append_right _ (List.mem_of_getElem? (i := 53) (by decide +kernel))))) rfl
theorem kw_779 : (Jvm.Cond.instanceMethod ({ cls := "TrimmedMachineModel", name := "evaluate", desc := "()V" } : Jvm.MethodName)) ∈ tm_wa := tm_tb (List.mem_append_right _ (List.mem_append_right _ (List.mem_append_right _ (List.mem_of_getElem? (i := 59) (by decide +kernel))))) rfl
theorem kw_780 : (Jvm.Cond.code ({ cls := "TrimmedMachineModel", name := "evaluate", desc := "()V" } : Jvm.MethodName) prog_8_method_28_code (2 : Nat) (Option.none : Option Jvm.ClassFile.FieldType)) ∈ tm_wa := tm_tb (List.mem_append_right _ (List.mem_append_right _ (List.mem_append_right _ (List.mem_of_getElem? (i := 60) (rfl))))) rfl
theorem kw_781 : (Jvm.Cond.methodLink "TrimmedMachineModel" (151 : Nat) ({ cls := "TrimmedMachineModel", name := "closure", desc := "(I)V" } : Jvm.MethodName)) ∈ tm_wa := tm_tb (List.mem_append_right _ (List.mem_append_right _ (List.mem_append_right _ (List.mem_of_getElem? (i := 61) (by decide +kernel))))) rfl
theorem kw_783 : (Jvm.Cond.instanceMethod ({ cls := "TrimmedMachineModel", name := "closure", desc := "(I)V" } : Jvm.MethodName)) ∈ tm_wa := tm_tb (List.mem_append_right _ (List.mem_append_right _ (List.mem_append_right _ (List.mem_of_getElem? (i := 63) (by decide +kernel))))) rfl
theorem kw_784 : (Jvm.Cond.code ({ cls := "TrimmedMachineModel", name := "closure", desc := "(I)V" } : Jvm.MethodName) prog_8_method_27_code (3 : Nat) (Option.none : Option Jvm.ClassFile.FieldType)) ∈ tm_wa := tm_tb (List.mem_append_right _ (List.mem_append_right _ (List.mem_append_right _ (List.mem_of_getElem? (i := 64) (rfl))))) rfl
theorem kw_785 : (Jvm.Cond.methodLink "TrimmedMachineModel" (155 : Nat) ({ cls := "TrimmedMachineModel", name := "push", desc := "(IIII)V" } : Jvm.MethodName)) ∈ tm_wa := tm_tb (List.mem_append_right _ (List.mem_append_right _ (List.mem_append_right _ (List.mem_of_getElem? (i := 65) (by decide +kernel))))) rfl
theorem kw_787 : (Jvm.Cond.instanceMethod ({ cls := "TrimmedMachineModel", name := "push", desc := "(IIII)V" } : Jvm.MethodName)) ∈ tm_wa := tm_tb (List.mem_append_right _ (List.mem_append_right _ (List.mem_append_right _ (List.mem_of_getElem? (i := 67) (by decide +kernel))))) rfl
theorem kw_788 : (Jvm.Cond.code ({ cls := "TrimmedMachineModel", name := "push", desc := "(IIII)V" } : Jvm.MethodName) prog_8_method_25_code (5 : Nat) (Option.none : Option Jvm.ClassFile.FieldType)) ∈ tm_wa := tm_tb (List.mem_append_right _ (List.mem_append_right _ (List.mem_append_right _ (List.mem_of_getElem? (i := 68) (rfl))))) rfl
abbrev y_MD_giveBack : MethodName := { cls := "TrimmedMachineModel", name := "giveBack", desc := "(IZ)V" }
abbrev b_MD_giveBack : ByteArray := prog_8_method_24_code
theorem ki_MD_giveBack : tm_ki y_MD_giveBack b_MD_giveBack 3 none 2 := ⟨⟨kw_6, kw_768, by decide, by decide, by decide +kernel⟩, kw_767, tm_sel (n := 31) (List.mem_append_right _ (List.mem_append_right _ (List.mem_append_right _ (List.mem_of_getElem? (i := 0) rfl))))⟩
abbrev y_MD_push : MethodName := { cls := "TrimmedMachineModel", name := "push", desc := "(IIII)V" }
abbrev b_MD_push : ByteArray := prog_8_method_25_code
theorem ki_MD_push : tm_ki y_MD_push b_MD_push 5 none 4 := ⟨⟨kw_6, kw_788, by decide, by decide, by decide +kernel⟩, kw_787, tm_sel (n := 31) (List.mem_append_right _ (List.mem_append_right _ (List.mem_append_right _ (List.mem_of_getElem? (i := 5) rfl))))⟩
abbrev y_MD_evaluateIn : MethodName := { cls := "TrimmedMachineModel", name := "evaluateIn", desc := "(II)V" }
abbrev b_MD_evaluateIn : ByteArray := prog_8_method_26_code
theorem ki_MD_evaluateIn : tm_ki y_MD_evaluateIn b_MD_evaluateIn 3 none 2 := ⟨⟨kw_6, kw_757, by decide, by decide, by decide +kernel⟩, kw_756, tm_sel (n := 31) (List.mem_append_right _ (List.mem_append_right _ (List.mem_append_left _ (List.mem_of_getElem? (i := 14) rfl))))⟩
abbrev y_MD_closure : MethodName := { cls := "TrimmedMachineModel", name := "closure", desc := "(I)V" }
abbrev b_MD_closure : ByteArray := prog_8_method_27_code
theorem ki_MD_closure : tm_ki y_MD_closure b_MD_closure 3 none 1 := ⟨⟨kw_6, kw_784, by decide, by decide, by decide +kernel⟩, kw_783, tm_sel (n := 31) (List.mem_append_right _ (List.mem_append_right _ (List.mem_append_right _ (List.mem_of_getElem? (i := 4) rfl))))⟩
abbrev y_MD_operated : MethodName := { cls := "TrimmedMachineModel", name := "operated", desc := "(III)I" }
abbrev b_MD_operated : ByteArray := prog_8_method_29_code
theorem ks_MD_operated : tm_ks y_MD_operated b_MD_operated 3 (some .int) 3 := ⟨⟨kw_6, kw_764, by decide, by decide, by decide +kernel⟩, kw_763⟩
abbrev y_MD_apply : MethodName := { cls := "TrimmedMachineModel", name := "apply", desc := "(IIZ)V" }
abbrev b_MD_apply : ByteArray := prog_8_method_30_code
theorem ki_MD_apply : tm_ki y_MD_apply b_MD_apply 5 none 3 := ⟨⟨kw_6, kw_772, by decide, by decide, by decide +kernel⟩, kw_771, tm_sel (n := 31) (List.mem_append_right _ (List.mem_append_right _ (List.mem_append_right _ (List.mem_of_getElem? (i := 1) rfl))))⟩
abbrev y_MD_evaluate : MethodName := { cls := "TrimmedMachineModel", name := "evaluate", desc := "()V" }
abbrev b_MD_evaluate : ByteArray := prog_8_method_28_code
theorem ki_MD_evaluate : tm_ki y_MD_evaluate b_MD_evaluate 2 none 0 := ⟨⟨kw_6, kw_780, by decide, by decide, by decide +kernel⟩, kw_779, tm_sel (n := 31) (List.mem_append_right _ (List.mem_append_right _ (List.mem_append_right _ (List.mem_of_getElem? (i := 3) rfl))))⟩
theorem d_MD_giveBack_0 : decode b_MD_giveBack 0 = .ok (.aload_n 0, 1) := by decide +kernel
theorem d_MD_giveBack_1 : decode b_MD_giveBack 1 = .ok (.iconst 1, 1) := by decide +kernel
theorem d_MD_giveBack_2 : decode b_MD_giveBack 2 = .ok (.putfield 97, 3) := by decide +kernel
theorem d_MD_giveBack_5 : decode b_MD_giveBack 5 = .ok (.aload_n 0, 1) := by decide +kernel
theorem d_MD_giveBack_6 : decode b_MD_giveBack 6 = .ok (.iload_n 1, 1) := by decide +kernel
theorem d_MD_giveBack_7 : decode b_MD_giveBack 7 = .ok (.putfield 110, 3) := by decide +kernel
theorem d_MD_giveBack_10 : decode b_MD_giveBack 10 = .ok (.aload_n 0, 1) := by decide +kernel
theorem d_MD_giveBack_11 : decode b_MD_giveBack 11 = .ok (.iload_n 2, 1) := by decide +kernel
theorem d_MD_giveBack_12 : decode b_MD_giveBack 12 = .ok (.putfield 107, 3) := by decide +kernel
theorem d_MD_giveBack_15 : decode b_MD_giveBack 15 = .ok (.return_, 1) := by decide +kernel
set_option maxHeartbeats 4000000 in
set_option maxRecDepth 100000 in
theorem c_MD_giveBack (l : Launch) (D : va_G) (cI cZ : ClassId) (ad : Nat → Nat) (x : Int32) (c : Int32) (u : tm_SC) (hc : tm_b1 c) : tm_V l y_MD_giveBack b_MD_giveBack 3 ({ frames := 0, cells := 0, slots := 0, locals := 0 } : Room) D (tm_yM cI cZ) (tm_wM ad cI cZ) [.ref (ad 0), .int (x), .int (c)] u (fun u' => u' = (ms_gb u x c)) := by
  intro sz
  refine tm_of (Qc := fun A => va_Qv (fun u' => u' = (ms_gb u x c)) (fun u' t => tm_B D (tm_yM cI cZ) A (tm_wM ad cI cZ u') t) A) (by decide) (Nat.le_of_ble_eq_true rfl) ?_ sz
  intro pg eg sg mg bel met cg A ls X h hl hnm
  have hx := X.1.1
  have hb := X.1.2.1
  have hl : lv_has ls 3 [(0, .ref (ad 0)), (1, .int (x)), (2, .int (c))] := hl
  refine lv_aload_n hx hb d_MD_giveBack_0 rfl (lv_at hl 0 rfl) ?_
  refine lv_iconst (v := 1) hx hb d_MD_giveBack_1 (by decide) ?_
  refine tm_put X h uw_MD t_MD t_MD_ok n_MD 0 rfl rfl 19 (by decide) kw_591 rfl rfl (rfl) (rfl) (Nat.le_of_ble_eq_true rfl) (ws' := tm_wM ad cI cZ (tm_sf u 7 (1))) rfl d_MD_giveBack_2 (fun H locs h => ?_)
  refine lv_aload_n hx hb d_MD_giveBack_5 rfl (lv_at hl 0 rfl) ?_
  refine lv_iload_n hx hb d_MD_giveBack_6 rfl (lv_at hl 1 rfl) ?_
  refine tm_put X h uw_MD t_MD t_MD_ok n_MD 0 rfl rfl 21 (by decide) kw_593 rfl rfl (rfl) (rfl) (Nat.le_of_ble_eq_true rfl) (ws' := tm_wM ad cI cZ (tm_sf (tm_sf u 7 (1)) 9 (x))) rfl d_MD_giveBack_7 (fun H locs h => ?_)
  refine lv_aload_n hx hb d_MD_giveBack_10 rfl (lv_at hl 0 rfl) ?_
  refine lv_iload_n hx hb d_MD_giveBack_11 rfl (lv_at hl 2 rfl) ?_
  refine tm_put X h uw_MD t_MD t_MD_ok n_MD 0 rfl rfl 22 (by decide) kw_594 rfl rfl (hc.narw) (hc.fit) (Nat.le_of_ble_eq_true rfl) (ws' := tm_wM ad cI cZ (tm_sf (tm_sf (tm_sf u 7 (1)) 9 (x)) 10 (c))) rfl d_MD_giveBack_12 (fun H locs h => ?_)
  exact tm_vret (w := tm_wM ad cI cZ) (u := (tm_sf (tm_sf (tm_sf u 7 (1)) 9 (x)) 10 (c))) X h (rfl) d_MD_giveBack_15
theorem d_MD_push_0 : decode b_MD_push 0 = .ok (.aload_n 0, 1) := by decide +kernel
theorem d_MD_push_1 : decode b_MD_push 1 = .ok (.getfield 47, 3) := by decide +kernel
theorem d_MD_push_4 : decode b_MD_push 4 = .ok (.aload_n 0, 1) := by decide +kernel
theorem d_MD_push_5 : decode b_MD_push 5 = .ok (.getfield 116, 3) := by decide +kernel
theorem d_MD_push_8 : decode b_MD_push 8 = .ok (.iload_n 1, 1) := by decide +kernel
theorem d_MD_push_9 : decode b_MD_push 9 = .ok (.iastore, 1) := by decide +kernel
theorem d_MD_push_10 : decode b_MD_push 10 = .ok (.aload_n 0, 1) := by decide +kernel
theorem d_MD_push_11 : decode b_MD_push 11 = .ok (.getfield 50, 3) := by decide +kernel
theorem d_MD_push_14 : decode b_MD_push 14 = .ok (.aload_n 0, 1) := by decide +kernel
theorem d_MD_push_15 : decode b_MD_push 15 = .ok (.getfield 116, 3) := by decide +kernel
theorem d_MD_push_18 : decode b_MD_push 18 = .ok (.iload_n 2, 1) := by decide +kernel
theorem d_MD_push_19 : decode b_MD_push 19 = .ok (.iastore, 1) := by decide +kernel
theorem d_MD_push_20 : decode b_MD_push 20 = .ok (.aload_n 0, 1) := by decide +kernel
theorem d_MD_push_21 : decode b_MD_push 21 = .ok (.getfield 53, 3) := by decide +kernel
theorem d_MD_push_24 : decode b_MD_push 24 = .ok (.aload_n 0, 1) := by decide +kernel
theorem d_MD_push_25 : decode b_MD_push 25 = .ok (.getfield 116, 3) := by decide +kernel
theorem d_MD_push_28 : decode b_MD_push 28 = .ok (.iload_n 3, 1) := by decide +kernel
theorem d_MD_push_29 : decode b_MD_push 29 = .ok (.iastore, 1) := by decide +kernel
theorem d_MD_push_30 : decode b_MD_push 30 = .ok (.aload_n 0, 1) := by decide +kernel
theorem d_MD_push_31 : decode b_MD_push 31 = .ok (.iconst 0, 1) := by decide +kernel
theorem d_MD_push_32 : decode b_MD_push 32 = .ok (.iconst 1, 1) := by decide +kernel
theorem d_MD_push_33 : decode b_MD_push 33 = .ok (.aload_n 0, 1) := by decide +kernel
theorem d_MD_push_34 : decode b_MD_push 34 = .ok (.getfield 116, 3) := by decide +kernel
theorem d_MD_push_37 : decode b_MD_push 37 = .ok (.iadd, 1) := by decide +kernel
theorem d_MD_push_38 : decode b_MD_push 38 = .ok (.iload 4, 2) := by decide +kernel
theorem d_MD_push_40 : decode b_MD_push 40 = .ok (.invokevirtual 140, 3) := by decide +kernel
theorem d_MD_push_43 : decode b_MD_push 43 = .ok (.aload_n 0, 1) := by decide +kernel
theorem d_MD_push_44 : decode b_MD_push 44 = .ok (.dup, 1) := by decide +kernel
theorem d_MD_push_45 : decode b_MD_push 45 = .ok (.getfield 116, 3) := by decide +kernel
theorem d_MD_push_48 : decode b_MD_push 48 = .ok (.iconst 1, 1) := by decide +kernel
theorem d_MD_push_49 : decode b_MD_push 49 = .ok (.iadd, 1) := by decide +kernel
theorem d_MD_push_50 : decode b_MD_push 50 = .ok (.putfield 116, 3) := by decide +kernel
theorem d_MD_push_53 : decode b_MD_push 53 = .ok (.return_, 1) := by decide +kernel
set_option maxHeartbeats 4000000 in
set_option maxRecDepth 100000 in
theorem c_MD_push (l : Launch) (D : va_G) (cI cZ : ClassId) (ad : Nat → Nat) (F : Nat) (k : Int32) (x : Int32) (y : Int32) (m : Int32) (u : tm_SC) (hF : u.1 11 = nI F) (hF2 : F < 130) (hz : ∀ m, tm_b1 (u.2.1 8 m)) : tm_V l y_MD_push b_MD_push 5 ({ frames := 1, cells := 0, slots := 0, locals := 24 } : Room) D (tm_yM cI cZ) (tm_wM ad cI cZ) [.ref (ad 0), .int (k), .int (x), .int (y), .int (m)] u (fun u' => u' = (ms_push u F k x y m)) := by
  intro sz
  refine tm_of (Qc := fun A => va_Qv (fun u' => u' = (ms_push u F k x y m)) (fun u' t => tm_B D (tm_yM cI cZ) A (tm_wM ad cI cZ u') t) A) (by decide) (Nat.le_of_ble_eq_true rfl) ?_ sz
  intro pg eg sg mg bel met cg A ls X h hl hnm
  have hx := X.1.1
  have hb := X.1.2.1
  have hl : lv_has ls 5 [(0, .ref (ad 0)), (1, .int (k)), (2, .int (x)), (3, .int (y)), (4, .int (m))] := hl
  refine lv_aload_n hx hb d_MD_push_0 rfl (lv_at hl 0 rfl) ?_
  refine tm_get X h uw_MD 0 rfl rfl 24 (by decide) kw_596 rfl rfl d_MD_push_1 ?_
  refine lv_aload_n hx hb d_MD_push_4 rfl (lv_at hl 0 rfl) ?_
  refine tm_get X h uw_MD 0 rfl rfl 23 (by decide) kw_595 rfl rfl d_MD_push_5 ?_
  refine lv_iload_n hx hb d_MD_push_8 rfl (lv_at hl 1 rfl) ?_
  refine tm_iast X h 13 0 rfl rfl (F) (hF2) (hF) (by decide) (ws' := tm_wM ad cI cZ (tm_sa u 12 (F) (k))) rfl d_MD_push_9 (fun H locs h => ?_)
  refine lv_aload_n hx hb d_MD_push_10 rfl (lv_at hl 0 rfl) ?_
  refine tm_get X h uw_MD 0 rfl rfl 25 (by decide) kw_597 rfl rfl d_MD_push_11 ?_
  refine lv_aload_n hx hb d_MD_push_14 rfl (lv_at hl 0 rfl) ?_
  refine tm_get X h uw_MD 0 rfl rfl 23 (by decide) kw_595 rfl rfl d_MD_push_15 ?_
  refine lv_iload_n hx hb d_MD_push_18 rfl (lv_at hl 2 rfl) ?_
  refine tm_iast X h 14 0 rfl rfl (F) (hF2) (hF) (by decide) (ws' := tm_wM ad cI cZ (tm_sa (tm_sa u 12 (F) (k)) 13 (F) (x))) rfl d_MD_push_19 (fun H locs h => ?_)
  refine lv_aload_n hx hb d_MD_push_20 rfl (lv_at hl 0 rfl) ?_
  refine tm_get X h uw_MD 0 rfl rfl 26 (by decide) kw_598 rfl rfl d_MD_push_21 ?_
  refine lv_aload_n hx hb d_MD_push_24 rfl (lv_at hl 0 rfl) ?_
  refine tm_get X h uw_MD 0 rfl rfl 23 (by decide) kw_595 rfl rfl d_MD_push_25 ?_
  refine lv_iload_n hx hb d_MD_push_28 rfl (lv_at hl 3 rfl) ?_
  refine tm_iast X h 15 0 rfl rfl (F) (hF2) (hF) (by decide) (ws' := tm_wM ad cI cZ (tm_sa (tm_sa (tm_sa u 12 (F) (k)) 13 (F) (x)) 14 (F) (y))) rfl d_MD_push_29 (fun H locs h => ?_)
  refine lv_aload_n hx hb d_MD_push_30 rfl (lv_at hl 0 rfl) ?_
  refine lv_iconst (v := 0) hx hb d_MD_push_31 (by decide) ?_
  refine lv_iconst (v := 1) hx hb d_MD_push_32 (by decide) ?_
  refine lv_aload_n hx hb d_MD_push_33 rfl (lv_at hl 0 rfl) ?_
  refine tm_get X h uw_MD 0 rfl rfl 23 (by decide) kw_595 rfl rfl d_MD_push_34 ?_
  refine lv_iadd hx hb d_MD_push_37 ?_
  refine tm_top (y := nI (1 + F)) (by show 1 + u.1 11 = _; rw [hF]; exact nI_add 1 F) ?_
  refine lv_iload hx hb d_MD_push_38 (lv_at hl 4 rfl) ?_
  refine tm_cVf X h (tm_rV (q0 := 0) X h (c_MD_copy l D cI cZ ad (0) (1 + F) (m) (tm_sa (tm_sa (tm_sa u 12 (F) (k)) 13 (F) (x)) 14 (F) (y)) (by decide) (by omega) (hz) _) ki_MD_copy kw_758 rfl rfl rfl rfl rfl ⟨by decide, by decide⟩ rfl hl.1 rfl (Nat.le_of_ble_eq_true rfl) d_MD_push_40 ⟨by decide, by decide⟩) (fun H locs h => ?_)
  refine lv_aload_n hx hb d_MD_push_43 rfl (lv_at hl 0 rfl) ?_
  refine lv_dup hx hb d_MD_push_44 rfl ?_
  refine tm_get X h uw_MD 0 rfl rfl 23 (by decide) kw_595 rfl rfl d_MD_push_45 ?_
  refine lv_iconst (v := 1) hx hb d_MD_push_48 (by decide) ?_
  refine lv_iadd hx hb d_MD_push_49 ?_
  refine tm_top (y := nI (F + 1)) (by rw [ms_copy_f]; show u.1 11 + 1 = _; rw [hF, nI_1]) ?_
  refine tm_put X h uw_MD t_MD t_MD_ok n_MD 0 rfl rfl 23 (by decide) kw_595 rfl rfl (rfl) (rfl) (Nat.le_of_ble_eq_true rfl) (ws' := tm_wM ad cI cZ (tm_sf (ms_copy (tm_sa (tm_sa (tm_sa u 12 (F) (k)) 13 (F) (x)) 14 (F) (y)) (0) (1 + F) (m)) 11 (nI (F + 1)))) rfl d_MD_push_50 (fun H locs h => ?_)
  exact tm_vret (w := tm_wM ad cI cZ) (u := (tm_sf (ms_copy (tm_sa (tm_sa (tm_sa u 12 (F) (k)) 13 (F) (x)) 14 (F) (y)) (0) (1 + F) (m)) 11 (nI (F + 1)))) X h (rfl) d_MD_push_53
theorem d_MD_evaluateIn_0 : decode b_MD_evaluateIn 0 = .ok (.aload_n 0, 1) := by decide +kernel
theorem d_MD_evaluateIn_1 : decode b_MD_evaluateIn 1 = .ok (.iload_n 1, 1) := by decide +kernel
theorem d_MD_evaluateIn_2 : decode b_MD_evaluateIn 2 = .ok (.iconst 0, 1) := by decide +kernel
theorem d_MD_evaluateIn_3 : decode b_MD_evaluateIn 3 = .ok (.aload_n 0, 1) := by decide +kernel
theorem d_MD_evaluateIn_4 : decode b_MD_evaluateIn 4 = .ok (.getfield 22, 3) := by decide +kernel
theorem d_MD_evaluateIn_7 : decode b_MD_evaluateIn 7 = .ok (.iload_n 2, 1) := by decide +kernel
theorem d_MD_evaluateIn_8 : decode b_MD_evaluateIn 8 = .ok (.iaload, 1) := by decide +kernel
theorem d_MD_evaluateIn_9 : decode b_MD_evaluateIn 9 = .ok (.invokevirtual 140, 3) := by decide +kernel
theorem d_MD_evaluateIn_12 : decode b_MD_evaluateIn 12 = .ok (.aload_n 0, 1) := by decide +kernel
theorem d_MD_evaluateIn_13 : decode b_MD_evaluateIn 13 = .ok (.iconst 0, 1) := by decide +kernel
theorem d_MD_evaluateIn_14 : decode b_MD_evaluateIn 14 = .ok (.putfield 97, 3) := by decide +kernel
theorem d_MD_evaluateIn_17 : decode b_MD_evaluateIn 17 = .ok (.aload_n 0, 1) := by decide +kernel
theorem d_MD_evaluateIn_18 : decode b_MD_evaluateIn 18 = .ok (.iload_n 2, 1) := by decide +kernel
theorem d_MD_evaluateIn_19 : decode b_MD_evaluateIn 19 = .ok (.putfield 131, 3) := by decide +kernel
theorem d_MD_evaluateIn_22 : decode b_MD_evaluateIn 22 = .ok (.return_, 1) := by decide +kernel
set_option maxHeartbeats 4000000 in
set_option maxRecDepth 100000 in
theorem c_MD_evaluateIn (l : Launch) (D : va_G) (cI cZ : ClassId) (ad : Nat → Nat) (i : Nat) (e : Nat) (u : tm_SC) (hi : i < 260) (he : e < 100) (hz : ∀ m, tm_b1 (u.2.1 8 m)) : tm_V l y_MD_evaluateIn b_MD_evaluateIn 3 ({ frames := 1, cells := 0, slots := 0, locals := 24 } : Room) D (tm_yM cI cZ) (tm_wM ad cI cZ) [.ref (ad 0), .int (nI i), .int (nI e)] u (fun u' => u' = (ms_ei u i e)) := by
  intro sz
  refine tm_of (Qc := fun A => va_Qv (fun u' => u' = (ms_ei u i e)) (fun u' t => tm_B D (tm_yM cI cZ) A (tm_wM ad cI cZ u') t) A) (by decide) (Nat.le_of_ble_eq_true rfl) ?_ sz
  intro pg eg sg mg bel met cg A ls X h hl hnm
  have hx := X.1.1
  have hb := X.1.2.1
  have hl : lv_has ls 3 [(0, .ref (ad 0)), (1, .int (nI i)), (2, .int (nI e))] := hl
  refine lv_aload_n hx hb d_MD_evaluateIn_0 rfl (lv_at hl 0 rfl) ?_
  refine lv_iload_n hx hb d_MD_evaluateIn_1 rfl (lv_at hl 1 rfl) ?_
  refine lv_iconst (v := 0) hx hb d_MD_evaluateIn_2 (by decide) ?_
  refine lv_aload_n hx hb d_MD_evaluateIn_3 rfl (lv_at hl 0 rfl) ?_
  refine tm_get X h uw_MD 0 rfl rfl 5 (by decide) kw_577 rfl rfl d_MD_evaluateIn_4 ?_
  refine lv_iload_n hx hb d_MD_evaluateIn_7 rfl (lv_at hl 2 rfl) ?_
  refine tm_iald X h 5 0 rfl rfl (e) (by omega) (rfl) (by decide) d_MD_evaluateIn_8 ?_
  refine tm_cVf X h (tm_rV (q0 := 0) X h (c_MD_copy l D cI cZ ad (i) (0) (((u).2.1 4 (e))) u (hi) (by decide) (hz) _) ki_MD_copy kw_758 rfl rfl rfl rfl rfl ⟨by decide, by decide⟩ rfl hl.1 rfl (Nat.le_of_ble_eq_true rfl) d_MD_evaluateIn_9 ⟨by decide, by decide⟩) (fun H locs h => ?_)
  refine lv_aload_n hx hb d_MD_evaluateIn_12 rfl (lv_at hl 0 rfl) ?_
  refine lv_iconst (v := 0) hx hb d_MD_evaluateIn_13 (by decide) ?_
  refine tm_put X h uw_MD t_MD t_MD_ok n_MD 0 rfl rfl 19 (by decide) kw_591 rfl rfl (rfl) (rfl) (Nat.le_of_ble_eq_true rfl) (ws' := tm_wM ad cI cZ (tm_sf (ms_copy u (i) (0) (((u).2.1 4 (e)))) 7 (0))) rfl d_MD_evaluateIn_14 (fun H locs h => ?_)
  refine lv_aload_n hx hb d_MD_evaluateIn_17 rfl (lv_at hl 0 rfl) ?_
  refine lv_iload_n hx hb d_MD_evaluateIn_18 rfl (lv_at hl 2 rfl) ?_
  refine tm_put X h uw_MD t_MD t_MD_ok n_MD 0 rfl rfl 20 (by decide) kw_592 rfl rfl (rfl) (rfl) (Nat.le_of_ble_eq_true rfl) (ws' := tm_wM ad cI cZ (tm_sf (tm_sf (ms_copy u (i) (0) (((u).2.1 4 (e)))) 7 (0)) 8 (nI e))) rfl d_MD_evaluateIn_19 (fun H locs h => ?_)
  exact tm_vret (w := tm_wM ad cI cZ) (u := (tm_sf (tm_sf (ms_copy u (i) (0) (((u).2.1 4 (e)))) 7 (0)) 8 (nI e))) X h (rfl) d_MD_evaluateIn_22
theorem d_MD_closure_0 : decode b_MD_closure 0 = .ok (.iconst 0, 1) := by decide +kernel
theorem d_MD_closure_1 : decode b_MD_closure 1 = .ok (.istore_n 2, 1) := by decide +kernel
theorem d_MD_closure_2 : decode b_MD_closure 2 = .ok (.aload_n 0, 1) := by decide +kernel
theorem d_MD_closure_3 : decode b_MD_closure 3 = .ok (.getfield 41, 3) := by decide +kernel
theorem d_MD_closure_6 : decode b_MD_closure 6 = .ok (.iload_n 2, 1) := by decide +kernel
theorem d_MD_closure_7 : decode b_MD_closure 7 = .ok (.baload, 1) := by decide +kernel
theorem d_MD_closure_8 : decode b_MD_closure 8 = .ok (.ifCond .eq 9, 3) := by decide +kernel
theorem d_MD_closure_11 : decode b_MD_closure 11 = .ok (.iinc 2 1, 3) := by decide +kernel
theorem d_MD_closure_14 : decode b_MD_closure 14 = .ok (.goto (-12), 3) := by decide +kernel
theorem d_MD_closure_17 : decode b_MD_closure 17 = .ok (.aload_n 0, 1) := by decide +kernel
theorem d_MD_closure_18 : decode b_MD_closure 18 = .ok (.getfield 38, 3) := by decide +kernel
theorem d_MD_closure_21 : decode b_MD_closure 21 = .ok (.iload_n 2, 1) := by decide +kernel
theorem d_MD_closure_22 : decode b_MD_closure 22 = .ok (.iload_n 1, 1) := by decide +kernel
theorem d_MD_closure_23 : decode b_MD_closure 23 = .ok (.iastore, 1) := by decide +kernel
theorem d_MD_closure_24 : decode b_MD_closure 24 = .ok (.aload_n 0, 1) := by decide +kernel
theorem d_MD_closure_25 : decode b_MD_closure 25 = .ok (.iconst 0, 1) := by decide +kernel
theorem d_MD_closure_26 : decode b_MD_closure 26 = .ok (.sipush 130, 3) := by decide +kernel
theorem d_MD_closure_29 : decode b_MD_closure 29 = .ok (.iload_n 2, 1) := by decide +kernel
theorem d_MD_closure_30 : decode b_MD_closure 30 = .ok (.iadd, 1) := by decide +kernel
theorem d_MD_closure_31 : decode b_MD_closure 31 = .ok (.aload_n 0, 1) := by decide +kernel
theorem d_MD_closure_32 : decode b_MD_closure 32 = .ok (.getfield 22, 3) := by decide +kernel
theorem d_MD_closure_35 : decode b_MD_closure 35 = .ok (.iload_n 1, 1) := by decide +kernel
theorem d_MD_closure_36 : decode b_MD_closure 36 = .ok (.iaload, 1) := by decide +kernel
theorem d_MD_closure_37 : decode b_MD_closure 37 = .ok (.invokevirtual 140, 3) := by decide +kernel
theorem d_MD_closure_40 : decode b_MD_closure 40 = .ok (.aload_n 0, 1) := by decide +kernel
theorem d_MD_closure_41 : decode b_MD_closure 41 = .ok (.iload_n 2, 1) := by decide +kernel
theorem d_MD_closure_42 : decode b_MD_closure 42 = .ok (.iconst 1, 1) := by decide +kernel
theorem d_MD_closure_43 : decode b_MD_closure 43 = .ok (.invokevirtual 144, 3) := by decide +kernel
theorem d_MD_closure_46 : decode b_MD_closure 46 = .ok (.return_, 1) := by decide +kernel
set_option maxHeartbeats 4000000 in
set_option maxRecDepth 100000 in
theorem c_MD_closure (l : Launch) (D : va_G) (cI cZ : ClassId) (ad : Nat → Nat) (e : Nat) (c : Nat) (u : tm_SC) (he : e < 100) (hc : c < 130) (h0 : u.2.1 10 c = 0) (hj : ∀ j, j < c → ¬ u.2.1 10 j = 0) (hz : ∀ m, tm_b1 (u.2.1 8 m)) : tm_V l y_MD_closure b_MD_closure 3 ({ frames := 1, cells := 0, slots := 0, locals := 24 } : Room) D (tm_yM cI cZ) (tm_wM ad cI cZ) [.ref (ad 0), .int (nI e)] u (fun u' => u' = (ms_clo u e c)) := by
  intro sz
  refine tm_of (Qc := fun A => va_Qv (fun u' => u' = (ms_clo u e c)) (fun u' t => tm_B D (tm_yM cI cZ) A (tm_wM ad cI cZ u') t) A) (by decide) (Nat.le_of_ble_eq_true rfl) ?_ sz
  intro pg eg sg mg bel met cg A ls X h hl hnm
  have hx := X.1.1
  have hb := X.1.2.1
  have hl : lv_has ls 3 [(0, .ref (ad 0)), (1, .int (nI e))] := hl
  refine lv_iconst (v := 0) hx hb d_MD_closure_0 (by decide) ?_
  refine lv_istore_n hx hb d_MD_closure_1 rfl hl (by decide) rfl (fun ls (hl : lv_has ls 3 [(2, .int (0)), (0, .ref (ad 0)), (1, .int (nI e))]) => ?_)
  have lp2 : ∀ (nf : Nat) (k : Nat) (H : Heap) (locs : List Loc) (ls : Array Slot), c - k < nf → (k ≤ c) → tm_H D A sg (tm_wM ad cI cZ (u)) H locs → lv_has ls 3 [(0, .ref (ad 0)), (1, .int (nI e)), (2, .int (nI k))] → W pg l eg ({ frames := 1, cells := 0, slots := 0, locals := 24 } : Room) sg mg ([.ref (ad 0), .int (nI e)] : List Value).toArray bel met cg H locs 0 0 (MQ bel (va_Qv (fun u' => u' = (ms_clo u e c)) (fun u' t => tm_B D (tm_yM cI cZ) A (tm_wM ad cI cZ u') t) A) ([.ref (ad 0), .int (nI e)] : List Value).toArray sg 0 0 A) (F0 mg 2 ls []) := by
    intro nf
    induction nf with
    | zero => intro k H locs ls hm; exact absurd hm (Nat.not_lt_zero _)
    | succ nf ih =>
      intro k H locs ls hm hk h hl
      refine lv_aload_n hx hb d_MD_closure_2 rfl (lv_at hl 0 rfl) ?_
      refine tm_get X h uw_MD 0 rfl rfl 11 (by decide) kw_583 rfl rfl d_MD_closure_3 ?_
      refine lv_iload_n hx hb d_MD_closure_6 rfl (lv_at hl 2 rfl) ?_
      refine tm_zald X h 11 1 rfl rfl (k) (by omega) (rfl) (by decide) d_MD_closure_7 ?_
      refine lv_if_eq hx hb d_MD_closure_8 (tgt := 17) rfl (fun h8t => ?_) (fun h8f => ?_)
      · have e8 : k = c := by have : ¬ k < c := fun q => hj k q h8t; omega
        rw [e8] at hl
        refine lv_aload_n hx hb d_MD_closure_17 rfl (lv_at hl 0 rfl) ?_
        refine tm_get X h uw_MD 0 rfl rfl 10 (by decide) kw_582 rfl rfl d_MD_closure_18 ?_
        refine lv_iload_n hx hb d_MD_closure_21 rfl (lv_at hl 2 rfl) ?_
        refine lv_iload_n hx hb d_MD_closure_22 rfl (lv_at hl 1 rfl) ?_
        refine tm_iast X h 10 0 rfl rfl (c) (hc) (rfl) (by decide) (ws' := tm_wM ad cI cZ (tm_sa (u) 9 (c) (nI e))) rfl d_MD_closure_23 (fun H locs h => ?_)
        refine lv_aload_n hx hb d_MD_closure_24 rfl (lv_at hl 0 rfl) ?_
        refine lv_iconst (v := 0) hx hb d_MD_closure_25 (by decide) ?_
        refine lv_sipush (v := 130) hx hb d_MD_closure_26 (by decide) ?_
        refine lv_iload_n hx hb d_MD_closure_29 rfl (lv_at hl 2 rfl) ?_
        refine lv_iadd hx hb d_MD_closure_30 ?_
        refine tm_top (y := nI (130 + c)) (nI_add 130 c) ?_
        refine lv_aload_n hx hb d_MD_closure_31 rfl (lv_at hl 0 rfl) ?_
        refine tm_get X h uw_MD 0 rfl rfl 5 (by decide) kw_577 rfl rfl d_MD_closure_32 ?_
        refine lv_iload_n hx hb d_MD_closure_35 rfl (lv_at hl 1 rfl) ?_
        refine tm_iald X h 5 0 rfl rfl (e) (by omega) (rfl) (by decide) d_MD_closure_36 ?_
        refine tm_cVf X h (tm_rV (q0 := 0) X h (c_MD_copy l D cI cZ ad (0) (130 + c) ((((tm_sa (u) 9 (c) (nI e))).2.1 4 (e))) (tm_sa (u) 9 (c) (nI e)) (by decide) (by omega) (hz) _) ki_MD_copy kw_758 rfl rfl rfl rfl rfl ⟨by decide, by decide⟩ rfl hl.1 rfl (Nat.le_of_ble_eq_true rfl) d_MD_closure_37 ⟨by decide, by decide⟩) (fun H locs h => ?_)
        refine lv_aload_n hx hb d_MD_closure_40 rfl (lv_at hl 0 rfl) ?_
        refine lv_iload_n hx hb d_MD_closure_41 rfl (lv_at hl 2 rfl) ?_
        refine lv_iconst (v := 1) hx hb d_MD_closure_42 (by decide) ?_
        refine tm_cVf X h (tm_rV (q0 := 0) X h (c_MD_giveBack l D cI cZ ad (nI c) (1) (ms_copy (tm_sa (u) 9 (c) (nI e)) (0) (130 + c) ((((tm_sa (u) 9 (c) (nI e))).2.1 4 (e)))) (Or.inr rfl) _) ki_MD_giveBack kw_765 rfl rfl rfl rfl rfl ⟨by decide, by decide⟩ rfl hl.1 rfl (Nat.le_of_ble_eq_true rfl) d_MD_closure_43 ⟨by decide, by decide⟩) (fun H locs h => ?_)
        exact tm_vret (w := tm_wM ad cI cZ) (u := (ms_gb (ms_copy (tm_sa (u) 9 (c) (nI e)) (0) (130 + c) ((((tm_sa (u) 9 (c) (nI e))).2.1 4 (e)))) (nI c) (1))) X h (rfl) d_MD_closure_46
      · have h8 : k < c := by have : k ≠ c := fun q => h8f (by rw [q]; exact h0); omega
        refine lv_iinc (v := nI (k + 1)) hx hb d_MD_closure_11 hl (k := 2) rfl (tm_inc k) (by decide) rfl (fun ls (hl : lv_has ls 3 [(2, .int (nI (k + 1))), (0, .ref (ad 0)), (1, .int (nI e))]) => ?_)
        refine lv_goto hx hb d_MD_closure_14 (tgt := 2) rfl ?_
        exact ih (k + 1) _ _ _ (by omega) (by omega) h (lv_sub hl [1, 2, 0] rfl)
  exact lp2 _ (0) _ _ _ (Nat.lt_succ_self _) (Nat.zero_le _) h (lv_sub hl [1, 2, 0] rfl)
theorem d_MD_operated_0 : decode b_MD_operated 0 = .ok (.iload_n 0, 1) := by decide +kernel
theorem d_MD_operated_1 : decode b_MD_operated 1 = .ok (.ifCond .ne 9, 3) := by decide +kernel
theorem d_MD_operated_4 : decode b_MD_operated 4 = .ok (.iload_n 1, 1) := by decide +kernel
theorem d_MD_operated_5 : decode b_MD_operated 5 = .ok (.iload_n 2, 1) := by decide +kernel
theorem d_MD_operated_6 : decode b_MD_operated 6 = .ok (.iadd, 1) := by decide +kernel
theorem d_MD_operated_7 : decode b_MD_operated 7 = .ok (.goto 35, 3) := by decide +kernel
theorem d_MD_operated_10 : decode b_MD_operated 10 = .ok (.iload_n 0, 1) := by decide +kernel
theorem d_MD_operated_11 : decode b_MD_operated 11 = .ok (.iconst 1, 1) := by decide +kernel
theorem d_MD_operated_12 : decode b_MD_operated 12 = .ok (.if_icmp .ne 9, 3) := by decide +kernel
theorem d_MD_operated_15 : decode b_MD_operated 15 = .ok (.iload_n 1, 1) := by decide +kernel
theorem d_MD_operated_16 : decode b_MD_operated 16 = .ok (.iload_n 2, 1) := by decide +kernel
theorem d_MD_operated_17 : decode b_MD_operated 17 = .ok (.isub, 1) := by decide +kernel
theorem d_MD_operated_18 : decode b_MD_operated 18 = .ok (.goto 24, 3) := by decide +kernel
theorem d_MD_operated_21 : decode b_MD_operated 21 = .ok (.iload_n 0, 1) := by decide +kernel
theorem d_MD_operated_22 : decode b_MD_operated 22 = .ok (.iconst 2, 1) := by decide +kernel
theorem d_MD_operated_23 : decode b_MD_operated 23 = .ok (.if_icmp .ne 9, 3) := by decide +kernel
theorem d_MD_operated_26 : decode b_MD_operated 26 = .ok (.iload_n 1, 1) := by decide +kernel
theorem d_MD_operated_27 : decode b_MD_operated 27 = .ok (.iload_n 2, 1) := by decide +kernel
theorem d_MD_operated_28 : decode b_MD_operated 28 = .ok (.imul, 1) := by decide +kernel
theorem d_MD_operated_29 : decode b_MD_operated 29 = .ok (.goto 13, 3) := by decide +kernel
theorem d_MD_operated_32 : decode b_MD_operated 32 = .ok (.iload_n 1, 1) := by decide +kernel
theorem d_MD_operated_33 : decode b_MD_operated 33 = .ok (.iload_n 2, 1) := by decide +kernel
theorem d_MD_operated_34 : decode b_MD_operated 34 = .ok (.if_icmp .ge 7, 3) := by decide +kernel
theorem d_MD_operated_37 : decode b_MD_operated 37 = .ok (.iconst 1, 1) := by decide +kernel
theorem d_MD_operated_38 : decode b_MD_operated 38 = .ok (.goto 4, 3) := by decide +kernel
theorem d_MD_operated_41 : decode b_MD_operated 41 = .ok (.iconst 0, 1) := by decide +kernel
theorem d_MD_operated_42 : decode b_MD_operated 42 = .ok (.ireturn, 1) := by decide +kernel
set_option maxHeartbeats 4000000 in
set_option maxRecDepth 100000 in
theorem c_MD_operated (l : Launch) (D : va_G) (cI cZ : ClassId) (ad : Nat → Nat) (o : Int32) (a : Int32) (b : Int32) (u : tm_SC)  : tm_I l y_MD_operated b_MD_operated 3 .int ({ frames := 0, cells := 0, slots := 0, locals := 0 } : Room) D (tm_yM cI cZ) (tm_wM ad cI cZ) [.int (o), .int (a), .int (b)] u (fun r u' => r = (cs_opd o a b) ∧ u' = u) := by
  intro sz
  refine tm_of (Qc := fun A => va_Qi (fun r u' => r = (cs_opd o a b) ∧ u' = u) (fun u' t => tm_B D (tm_yM cI cZ) A (tm_wM ad cI cZ u') t) A) (by decide) (Nat.le_of_ble_eq_true rfl) ?_ sz
  intro pg eg sg mg bel met cg A ls X h hl hnm
  have hx := X.1.1
  have hb := X.1.2.1
  have hl : lv_has ls 3 [(0, .int (o)), (1, .int (a)), (2, .int (b))] := hl
  refine lv_iload_n hx hb d_MD_operated_0 rfl (lv_at hl 0 rfl) ?_
  refine lv_if_ne hx hb d_MD_operated_1 (tgt := 10) rfl (fun h1t => ?_) (fun h1f => ?_)
  · refine lv_iload_n hx hb d_MD_operated_10 rfl (lv_at hl 0 rfl) ?_
    refine lv_iconst (v := 1) hx hb d_MD_operated_11 (by decide) ?_
    refine lv_icmp_ne hx hb d_MD_operated_12 (tgt := 21) rfl (fun h12t => ?_) (fun h12f => ?_)
    · refine lv_iload_n hx hb d_MD_operated_21 rfl (lv_at hl 0 rfl) ?_
      refine lv_iconst (v := 2) hx hb d_MD_operated_22 (by decide) ?_
      refine lv_icmp_ne hx hb d_MD_operated_23 (tgt := 32) rfl (fun h23t => ?_) (fun h23f => ?_)
      · refine lv_iload_n hx hb d_MD_operated_32 rfl (lv_at hl 1 rfl) ?_
        refine lv_iload_n hx hb d_MD_operated_33 rfl (lv_at hl 2 rfl) ?_
        refine lv_icmp_ge hx hb d_MD_operated_34 (tgt := 41) rfl (fun h34t => ?_) (fun h34f => ?_)
        · refine lv_iconst (v := 0) hx hb d_MD_operated_41 (by decide) ?_
          exact tm_iret (w := tm_wM ad cI cZ) (u := u) X h (⟨by unfold cs_opd; rw [if_neg h1t, if_neg h12t, if_neg h23t, if_neg (Int32.not_lt.mpr h34t)], rfl⟩) d_MD_operated_42
        · refine lv_iconst (v := 1) hx hb d_MD_operated_37 (by decide) ?_
          refine lv_goto hx hb d_MD_operated_38 (tgt := 42) rfl ?_
          exact tm_iret (w := tm_wM ad cI cZ) (u := u) X h (⟨by unfold cs_opd; rw [if_neg h1t, if_neg h12t, if_neg h23t, if_pos (Int32.not_le.mp h34f)], rfl⟩) d_MD_operated_42
      · refine lv_iload_n hx hb d_MD_operated_26 rfl (lv_at hl 1 rfl) ?_
        refine lv_iload_n hx hb d_MD_operated_27 rfl (lv_at hl 2 rfl) ?_
        refine lv_imul hx hb d_MD_operated_28 ?_
        refine lv_goto hx hb d_MD_operated_29 (tgt := 42) rfl ?_
        exact tm_iret (w := tm_wM ad cI cZ) (u := u) X h (⟨by unfold cs_opd; rw [if_neg h1t, if_neg h12t, if_pos h23f], rfl⟩) d_MD_operated_42
    · refine lv_iload_n hx hb d_MD_operated_15 rfl (lv_at hl 1 rfl) ?_
      refine lv_iload_n hx hb d_MD_operated_16 rfl (lv_at hl 2 rfl) ?_
      refine lv_isub hx hb d_MD_operated_17 ?_
      refine lv_goto hx hb d_MD_operated_18 (tgt := 42) rfl ?_
      exact tm_iret (w := tm_wM ad cI cZ) (u := u) X h (⟨by unfold cs_opd; rw [if_neg h1t, if_pos h12f], rfl⟩) d_MD_operated_42
  · refine lv_iload_n hx hb d_MD_operated_4 rfl (lv_at hl 1 rfl) ?_
    refine lv_iload_n hx hb d_MD_operated_5 rfl (lv_at hl 2 rfl) ?_
    refine lv_iadd hx hb d_MD_operated_6 ?_
    refine lv_goto hx hb d_MD_operated_7 (tgt := 42) rfl ?_
    exact tm_iret (w := tm_wM ad cI cZ) (u := u) X h (⟨(if_pos h1f).symm, rfl⟩) d_MD_operated_42
theorem d_MD_apply_0 : decode b_MD_apply 0 = .ok (.aload_n 0, 1) := by decide +kernel
theorem d_MD_apply_1 : decode b_MD_apply 1 = .ok (.getfield 38, 3) := by decide +kernel
theorem d_MD_apply_4 : decode b_MD_apply 4 = .ok (.iload_n 1, 1) := by decide +kernel
theorem d_MD_apply_5 : decode b_MD_apply 5 = .ok (.iaload, 1) := by decide +kernel
theorem d_MD_apply_6 : decode b_MD_apply 6 = .ok (.istore 4, 2) := by decide +kernel
theorem d_MD_apply_8 : decode b_MD_apply 8 = .ok (.aload_n 0, 1) := by decide +kernel
theorem d_MD_apply_9 : decode b_MD_apply 9 = .ok (.sipush 130, 3) := by decide +kernel
theorem d_MD_apply_12 : decode b_MD_apply 12 = .ok (.iload_n 1, 1) := by decide +kernel
theorem d_MD_apply_13 : decode b_MD_apply 13 = .ok (.iadd, 1) := by decide +kernel
theorem d_MD_apply_14 : decode b_MD_apply 14 = .ok (.iconst 0, 1) := by decide +kernel
theorem d_MD_apply_15 : decode b_MD_apply 15 = .ok (.sipush 255, 3) := by decide +kernel
theorem d_MD_apply_18 : decode b_MD_apply 18 = .ok (.invokevirtual 140, 3) := by decide +kernel
theorem d_MD_apply_21 : decode b_MD_apply 21 = .ok (.aload_n 0, 1) := by decide +kernel
theorem d_MD_apply_22 : decode b_MD_apply 22 = .ok (.iconst 0, 1) := by decide +kernel
theorem d_MD_apply_23 : decode b_MD_apply 23 = .ok (.aload_n 0, 1) := by decide +kernel
theorem d_MD_apply_24 : decode b_MD_apply 24 = .ok (.getfield 16, 3) := by decide +kernel
theorem d_MD_apply_27 : decode b_MD_apply 27 = .ok (.iload 4, 2) := by decide +kernel
theorem d_MD_apply_29 : decode b_MD_apply 29 = .ok (.iaload, 1) := by decide +kernel
theorem d_MD_apply_30 : decode b_MD_apply 30 = .ok (.iload_n 2, 1) := by decide +kernel
theorem d_MD_apply_31 : decode b_MD_apply 31 = .ok (.iload_n 3, 1) := by decide +kernel
theorem d_MD_apply_32 : decode b_MD_apply 32 = .ok (.invokevirtual 163, 3) := by decide +kernel
theorem d_MD_apply_35 : decode b_MD_apply 35 = .ok (.aload_n 0, 1) := by decide +kernel
theorem d_MD_apply_36 : decode b_MD_apply 36 = .ok (.getfield 13, 3) := by decide +kernel
theorem d_MD_apply_39 : decode b_MD_apply 39 = .ok (.iload 4, 2) := by decide +kernel
theorem d_MD_apply_41 : decode b_MD_apply 41 = .ok (.iaload, 1) := by decide +kernel
theorem d_MD_apply_42 : decode b_MD_apply 42 = .ok (.ifCond .lt 17, 3) := by decide +kernel
theorem d_MD_apply_45 : decode b_MD_apply 45 = .ok (.aload_n 0, 1) := by decide +kernel
theorem d_MD_apply_46 : decode b_MD_apply 46 = .ok (.iconst 0, 1) := by decide +kernel
theorem d_MD_apply_47 : decode b_MD_apply 47 = .ok (.aload_n 0, 1) := by decide +kernel
theorem d_MD_apply_48 : decode b_MD_apply 48 = .ok (.getfield 13, 3) := by decide +kernel
theorem d_MD_apply_51 : decode b_MD_apply 51 = .ok (.iload 4, 2) := by decide +kernel
theorem d_MD_apply_53 : decode b_MD_apply 53 = .ok (.iaload, 1) := by decide +kernel
theorem d_MD_apply_54 : decode b_MD_apply 54 = .ok (.iload_n 1, 1) := by decide +kernel
theorem d_MD_apply_55 : decode b_MD_apply 55 = .ok (.iconst 1, 1) := by decide +kernel
theorem d_MD_apply_56 : decode b_MD_apply 56 = .ok (.invokevirtual 163, 3) := by decide +kernel
theorem d_MD_apply_59 : decode b_MD_apply 59 = .ok (.aload_n 0, 1) := by decide +kernel
theorem d_MD_apply_60 : decode b_MD_apply 60 = .ok (.iconst 0, 1) := by decide +kernel
theorem d_MD_apply_61 : decode b_MD_apply 61 = .ok (.aload_n 0, 1) := by decide +kernel
theorem d_MD_apply_62 : decode b_MD_apply 62 = .ok (.getfield 19, 3) := by decide +kernel
theorem d_MD_apply_65 : decode b_MD_apply 65 = .ok (.iload 4, 2) := by decide +kernel
theorem d_MD_apply_67 : decode b_MD_apply 67 = .ok (.iaload, 1) := by decide +kernel
theorem d_MD_apply_68 : decode b_MD_apply 68 = .ok (.invokevirtual 159, 3) := by decide +kernel
theorem d_MD_apply_71 : decode b_MD_apply 71 = .ok (.return_, 1) := by decide +kernel
set_option maxHeartbeats 4000000 in
set_option maxRecDepth 100000 in
theorem c_MD_apply (l : Launch) (D : va_G) (cI cZ : ClassId) (ad : Nat → Nat) (c : Nat) (e : Nat) (v : Nat) (b : Nat) (x : Int32) (z : Int32) (u : tm_SC) (hc : c < 120) (he : e < 100) (hv : v < 8) (hb2 : b < 100) (h9 : u.2.1 9 c = nI e) (h2 : u.2.1 2 e = nI v) (h3 : u.2.1 3 e = nI b) (h1 : ¬ u.2.1 1 e < 0 → vp_in (u.2.1 1 e) 8) (hz : ∀ m, tm_b1 (u.2.1 8 m)) (hz2 : tm_b1 z) : tm_V l y_MD_apply b_MD_apply 5 ({ frames := 2, cells := 0, slots := 0, locals := 46 } : Room) D (tm_yM cI cZ) (tm_wM ad cI cZ) [.ref (ad 0), .int (nI c), .int (x), .int (z)] u (fun u' => u' = (ms_app u c e v b x z)) := by
  intro sz
  refine tm_of (Qc := fun A => va_Qv (fun u' => u' = (ms_app u c e v b x z)) (fun u' t => tm_B D (tm_yM cI cZ) A (tm_wM ad cI cZ u') t) A) (by decide) (Nat.le_of_ble_eq_true rfl) ?_ sz
  intro pg eg sg mg bel met cg A ls X h hl hnm
  have hx := X.1.1
  have hb := X.1.2.1
  have hl : lv_has ls 5 [(0, .ref (ad 0)), (1, .int (nI c)), (2, .int (x)), (3, .int (z))] := hl
  refine lv_aload_n hx hb d_MD_apply_0 rfl (lv_at hl 0 rfl) ?_
  refine tm_get X h uw_MD 0 rfl rfl 10 (by decide) kw_582 rfl rfl d_MD_apply_1 ?_
  refine lv_iload_n hx hb d_MD_apply_4 rfl (lv_at hl 1 rfl) ?_
  refine tm_iald X h 10 0 rfl rfl (c) (by omega) (rfl) (by decide) d_MD_apply_5 ?_
  refine tm_top (y := nI e) (h9) ?_
  refine lv_istore hx hb d_MD_apply_6 hl (by decide) rfl (fun ls (hl : lv_has ls 5 [(4, .int (nI e)), (0, .ref (ad 0)), (1, .int (nI c)), (2, .int (x)), (3, .int (z))]) => ?_)
  refine lv_aload_n hx hb d_MD_apply_8 rfl (lv_at hl 1 rfl) ?_
  refine lv_sipush (v := 130) hx hb d_MD_apply_9 (by decide) ?_
  refine lv_iload_n hx hb d_MD_apply_12 rfl (lv_at hl 2 rfl) ?_
  refine lv_iadd hx hb d_MD_apply_13 ?_
  refine tm_top (y := nI (130 + c)) (nI_add 130 c) ?_
  refine lv_iconst (v := 0) hx hb d_MD_apply_14 (by decide) ?_
  refine lv_sipush (v := 255) hx hb d_MD_apply_15 (by decide) ?_
  refine tm_cVf X h (tm_rV (q0 := 0) X h (c_MD_copy l D cI cZ ad (130 + c) (0) (255) u (by omega) (by decide) (hz) _) ki_MD_copy kw_758 rfl rfl rfl rfl rfl ⟨by decide, by decide⟩ rfl hl.1 rfl (Nat.le_of_ble_eq_true rfl) d_MD_apply_18 ⟨by decide, by decide⟩) (fun H locs h => ?_)
  refine lv_aload_n hx hb d_MD_apply_21 rfl (lv_at hl 1 rfl) ?_
  refine lv_iconst (v := 0) hx hb d_MD_apply_22 (by decide) ?_
  refine lv_aload_n hx hb d_MD_apply_23 rfl (lv_at hl 1 rfl) ?_
  refine tm_get X h uw_MD 0 rfl rfl 3 (by decide) kw_575 rfl rfl d_MD_apply_24 ?_
  refine lv_iload hx hb d_MD_apply_27 (lv_at hl 0 rfl) ?_
  refine tm_iald X h 3 0 rfl rfl (e) (by omega) (rfl) (by decide) d_MD_apply_29 ?_
  refine tm_top (y := nI v) ((congrFun (ms_copy_a u _ _ _ (by decide) (by decide) (by decide)) e).trans h2) ?_
  refine lv_iload_n hx hb d_MD_apply_30 rfl (lv_at hl 3 rfl) ?_
  refine lv_iload_n hx hb d_MD_apply_31 rfl (lv_at hl 4 rfl) ?_
  refine tm_cVf X h (tm_rV (q0 := 0) X h (c_MD_give l D cI cZ ad (0) (v) (x) (z) (ms_copy u (130 + c) (0) (255)) (by decide) (hv) (hz2) _) ki_MD_give kw_773 rfl rfl rfl rfl rfl ⟨by decide, by decide⟩ rfl hl.1 rfl (Nat.le_of_ble_eq_true rfl) d_MD_apply_32 ⟨by decide, by decide⟩) (fun H locs h => ?_)
  have h : tm_H D A sg (tm_wM ad cI cZ (ms_ap1 u c v x z)) _ _ := h
  refine lv_aload_n hx hb d_MD_apply_35 rfl (lv_at hl 1 rfl) ?_
  refine tm_get X h uw_MD 0 rfl rfl 2 (by decide) kw_574 rfl rfl d_MD_apply_36 ?_
  refine lv_iload hx hb d_MD_apply_39 (lv_at hl 0 rfl) ?_
  refine tm_iald X h 2 0 rfl rfl (e) (by omega) (rfl) (by decide) d_MD_apply_41 ?_
  refine tm_top (y := u.2.1 1 e) ((congrFun (ms_ap1_a u c v x z (by decide) (by decide) (by decide)) e)) ?_
  refine lv_if_lt hx hb d_MD_apply_42 (tgt := 59) rfl (fun h42t => ?_) (fun h42f => ?_)
  · refine lv_aload_n hx hb d_MD_apply_59 rfl (lv_at hl 1 rfl) ?_
    refine lv_iconst (v := 0) hx hb d_MD_apply_60 (by decide) ?_
    refine lv_aload_n hx hb d_MD_apply_61 rfl (lv_at hl 1 rfl) ?_
    refine tm_get X h uw_MD 0 rfl rfl 4 (by decide) kw_576 rfl rfl d_MD_apply_62 ?_
    refine lv_iload hx hb d_MD_apply_65 (lv_at hl 0 rfl) ?_
    refine tm_iald X h 4 0 rfl rfl (e) (by omega) (rfl) (by decide) d_MD_apply_67 ?_
    refine tm_top (y := nI b) ((congrFun (ms_ap1_a u c v x z (by decide) (by decide) (by decide)) e).trans h3) ?_
    refine tm_cVf X h (tm_rV (q0 := 0) X h (c_MD_evaluateIn l D cI cZ ad (0) (b) (ms_ap1 u c v x z) (by decide) (hb2) (ms_give_b (ms_copy_b hz) hz2) _) ki_MD_evaluateIn kw_754 rfl rfl rfl rfl rfl ⟨by decide, by decide⟩ rfl hl.1 rfl (Nat.le_of_ble_eq_true rfl) d_MD_apply_68 ⟨by decide, by decide⟩) (fun H locs h => ?_)
    exact tm_vret (w := tm_wM ad cI cZ) (u := (ms_ei (ms_ap1 u c v x z) (0) (b))) X h (by unfold ms_app; rw [if_pos h42t]) d_MD_apply_71
  · refine lv_aload_n hx hb d_MD_apply_45 rfl (lv_at hl 1 rfl) ?_
    refine lv_iconst (v := 0) hx hb d_MD_apply_46 (by decide) ?_
    refine lv_aload_n hx hb d_MD_apply_47 rfl (lv_at hl 1 rfl) ?_
    refine tm_get X h uw_MD 0 rfl rfl 2 (by decide) kw_574 rfl rfl d_MD_apply_48 ?_
    refine lv_iload hx hb d_MD_apply_51 (lv_at hl 0 rfl) ?_
    refine tm_iald X h 2 0 rfl rfl (e) (by omega) (rfl) (by decide) d_MD_apply_53 ?_
    refine tm_top (y := nI ((u.2.1 1 e).toNatClampNeg)) ((congrFun (ms_ap1_a u c v x z (by decide) (by decide) (by decide)) e).trans (tm_vin (h1 h42f) (by decide)).2) ?_
    refine lv_iload_n hx hb d_MD_apply_54 rfl (lv_at hl 2 rfl) ?_
    refine lv_iconst (v := 1) hx hb d_MD_apply_55 (by decide) ?_
    refine tm_cVf X h (tm_rV (q0 := 0) X h (c_MD_give l D cI cZ ad (0) ((u.2.1 1 e).toNatClampNeg) (nI c) (1) (ms_ap1 u c v x z) (by decide) ((tm_vin (h1 h42f) (by decide)).1) (Or.inr rfl) _) ki_MD_give kw_773 rfl rfl rfl rfl rfl ⟨by decide, by decide⟩ rfl hl.1 rfl (Nat.le_of_ble_eq_true rfl) d_MD_apply_56 ⟨by decide, by decide⟩) (fun H locs h => ?_)
    refine lv_aload_n hx hb d_MD_apply_59 rfl (lv_at hl 1 rfl) ?_
    refine lv_iconst (v := 0) hx hb d_MD_apply_60 (by decide) ?_
    refine lv_aload_n hx hb d_MD_apply_61 rfl (lv_at hl 1 rfl) ?_
    refine tm_get X h uw_MD 0 rfl rfl 4 (by decide) kw_576 rfl rfl d_MD_apply_62 ?_
    refine lv_iload hx hb d_MD_apply_65 (lv_at hl 0 rfl) ?_
    refine tm_iald X h 4 0 rfl rfl (e) (by omega) (rfl) (by decide) d_MD_apply_67 ?_
    refine tm_top (y := nI b) ((congrFun ((ms_give_a _ _ _ _ _ (by decide) (by decide) (by decide)).trans (ms_ap1_a u c v x z (by decide) (by decide) (by decide))) e).trans h3) ?_
    refine tm_cVf X h (tm_rV (q0 := 0) X h (c_MD_evaluateIn l D cI cZ ad (0) (b) (ms_give (ms_ap1 u c v x z) (0) ((u.2.1 1 e).toNatClampNeg) (nI c) (1)) (by decide) (hb2) (ms_give_b (ms_give_b (ms_copy_b hz) hz2) (Or.inr rfl)) _) ki_MD_evaluateIn kw_754 rfl rfl rfl rfl rfl ⟨by decide, by decide⟩ rfl hl.1 rfl (Nat.le_of_ble_eq_true rfl) d_MD_apply_68 ⟨by decide, by decide⟩) (fun H locs h => ?_)
    exact tm_vret (w := tm_wM ad cI cZ) (u := (ms_ei (ms_give (ms_ap1 u c v x z) (0) ((u.2.1 1 e).toNatClampNeg) (nI c) (1)) (0) (b))) X h (by unfold ms_app; rw [if_neg h42f]) d_MD_apply_71
theorem d_MD_evaluate_0 : decode b_MD_evaluate 0 = .ok (.aload_n 0, 1) := by decide +kernel
theorem d_MD_evaluate_1 : decode b_MD_evaluate 1 = .ok (.getfield 131, 3) := by decide +kernel
theorem d_MD_evaluate_4 : decode b_MD_evaluate 4 = .ok (.istore_n 1, 1) := by decide +kernel
theorem d_MD_evaluate_5 : decode b_MD_evaluate 5 = .ok (.aload_n 0, 1) := by decide +kernel
theorem d_MD_evaluate_6 : decode b_MD_evaluate 6 = .ok (.getfield 7, 3) := by decide +kernel
theorem d_MD_evaluate_9 : decode b_MD_evaluate 9 = .ok (.iload_n 1, 1) := by decide +kernel
theorem d_MD_evaluate_10 : decode b_MD_evaluate 10 = .ok (.iaload, 1) := by decide +kernel
theorem d_MD_evaluate_11 : decode b_MD_evaluate 11 = .ok (.tableswitch 189 0 4 #[33, 47, 102, 110, 147], 33) := by decide +kernel
theorem d_MD_evaluate_44 : decode b_MD_evaluate 44 = .ok (.aload_n 0, 1) := by decide +kernel
theorem d_MD_evaluate_45 : decode b_MD_evaluate 45 = .ok (.aload_n 0, 1) := by decide +kernel
theorem d_MD_evaluate_46 : decode b_MD_evaluate 46 = .ok (.getfield 13, 3) := by decide +kernel
theorem d_MD_evaluate_49 : decode b_MD_evaluate 49 = .ok (.iload_n 1, 1) := by decide +kernel
theorem d_MD_evaluate_50 : decode b_MD_evaluate 50 = .ok (.iaload, 1) := by decide +kernel
theorem d_MD_evaluate_51 : decode b_MD_evaluate 51 = .ok (.iconst 0, 1) := by decide +kernel
theorem d_MD_evaluate_52 : decode b_MD_evaluate 52 = .ok (.invokevirtual 144, 3) := by decide +kernel
theorem d_MD_evaluate_55 : decode b_MD_evaluate 55 = .ok (.goto 196, 3) := by decide +kernel
theorem d_MD_evaluate_58 : decode b_MD_evaluate 58 = .ok (.aload_n 0, 1) := by decide +kernel
theorem d_MD_evaluate_59 : decode b_MD_evaluate 59 = .ok (.getfield 28, 3) := by decide +kernel
theorem d_MD_evaluate_62 : decode b_MD_evaluate 62 = .ok (.iconst 0, 1) := by decide +kernel
theorem d_MD_evaluate_63 : decode b_MD_evaluate 63 = .ok (.iaload, 1) := by decide +kernel
theorem d_MD_evaluate_64 : decode b_MD_evaluate 64 = .ok (.aload_n 0, 1) := by decide +kernel
theorem d_MD_evaluate_65 : decode b_MD_evaluate 65 = .ok (.getfield 13, 3) := by decide +kernel
theorem d_MD_evaluate_68 : decode b_MD_evaluate 68 = .ok (.iload_n 1, 1) := by decide +kernel
theorem d_MD_evaluate_69 : decode b_MD_evaluate 69 = .ok (.iaload, 1) := by decide +kernel
theorem d_MD_evaluate_70 : decode b_MD_evaluate 70 = .ok (.ishr, 1) := by decide +kernel
theorem d_MD_evaluate_71 : decode b_MD_evaluate 71 = .ok (.iconst 1, 1) := by decide +kernel
theorem d_MD_evaluate_72 : decode b_MD_evaluate 72 = .ok (.iand, 1) := by decide +kernel
theorem d_MD_evaluate_73 : decode b_MD_evaluate 73 = .ok (.ifCond .ne 11, 3) := by decide +kernel
theorem d_MD_evaluate_76 : decode b_MD_evaluate 76 = .ok (.aload_n 0, 1) := by decide +kernel
theorem d_MD_evaluate_77 : decode b_MD_evaluate 77 = .ok (.iconst 2, 1) := by decide +kernel
theorem d_MD_evaluate_78 : decode b_MD_evaluate 78 = .ok (.putfield 148, 3) := by decide +kernel
theorem d_MD_evaluate_81 : decode b_MD_evaluate 81 = .ok (.goto 170, 3) := by decide +kernel
theorem d_MD_evaluate_84 : decode b_MD_evaluate 84 = .ok (.aload_n 0, 1) := by decide +kernel
theorem d_MD_evaluate_85 : decode b_MD_evaluate 85 = .ok (.aload_n 0, 1) := by decide +kernel
theorem d_MD_evaluate_86 : decode b_MD_evaluate 86 = .ok (.getfield 31, 3) := by decide +kernel
theorem d_MD_evaluate_89 : decode b_MD_evaluate 89 = .ok (.aload_n 0, 1) := by decide +kernel
theorem d_MD_evaluate_90 : decode b_MD_evaluate 90 = .ok (.getfield 13, 3) := by decide +kernel
theorem d_MD_evaluate_93 : decode b_MD_evaluate 93 = .ok (.iload_n 1, 1) := by decide +kernel
theorem d_MD_evaluate_94 : decode b_MD_evaluate 94 = .ok (.iaload, 1) := by decide +kernel
theorem d_MD_evaluate_95 : decode b_MD_evaluate 95 = .ok (.iaload, 1) := by decide +kernel
theorem d_MD_evaluate_96 : decode b_MD_evaluate 96 = .ok (.aload_n 0, 1) := by decide +kernel
theorem d_MD_evaluate_97 : decode b_MD_evaluate 97 = .ok (.getfield 34, 3) := by decide +kernel
theorem d_MD_evaluate_100 : decode b_MD_evaluate 100 = .ok (.aload_n 0, 1) := by decide +kernel
theorem d_MD_evaluate_101 : decode b_MD_evaluate 101 = .ok (.getfield 13, 3) := by decide +kernel
theorem d_MD_evaluate_104 : decode b_MD_evaluate 104 = .ok (.iload_n 1, 1) := by decide +kernel
theorem d_MD_evaluate_105 : decode b_MD_evaluate 105 = .ok (.iaload, 1) := by decide +kernel
theorem d_MD_evaluate_106 : decode b_MD_evaluate 106 = .ok (.baload, 1) := by decide +kernel
theorem d_MD_evaluate_107 : decode b_MD_evaluate 107 = .ok (.invokevirtual 144, 3) := by decide +kernel
theorem d_MD_evaluate_110 : decode b_MD_evaluate 110 = .ok (.goto 141, 3) := by decide +kernel
theorem d_MD_evaluate_113 : decode b_MD_evaluate 113 = .ok (.aload_n 0, 1) := by decide +kernel
theorem d_MD_evaluate_114 : decode b_MD_evaluate 114 = .ok (.iload_n 1, 1) := by decide +kernel
theorem d_MD_evaluate_115 : decode b_MD_evaluate 115 = .ok (.invokevirtual 151, 3) := by decide +kernel
theorem d_MD_evaluate_118 : decode b_MD_evaluate 118 = .ok (.goto 133, 3) := by decide +kernel
theorem d_MD_evaluate_121 : decode b_MD_evaluate 121 = .ok (.aload_n 0, 1) := by decide +kernel
theorem d_MD_evaluate_122 : decode b_MD_evaluate 122 = .ok (.iconst 0, 1) := by decide +kernel
theorem d_MD_evaluate_123 : decode b_MD_evaluate 123 = .ok (.aload_n 0, 1) := by decide +kernel
theorem d_MD_evaluate_124 : decode b_MD_evaluate 124 = .ok (.getfield 16, 3) := by decide +kernel
theorem d_MD_evaluate_127 : decode b_MD_evaluate 127 = .ok (.iload_n 1, 1) := by decide +kernel
theorem d_MD_evaluate_128 : decode b_MD_evaluate 128 = .ok (.iaload, 1) := by decide +kernel
theorem d_MD_evaluate_129 : decode b_MD_evaluate 129 = .ok (.iconst 0, 1) := by decide +kernel
theorem d_MD_evaluate_130 : decode b_MD_evaluate 130 = .ok (.aload_n 0, 1) := by decide +kernel
theorem d_MD_evaluate_131 : decode b_MD_evaluate 131 = .ok (.getfield 22, 3) := by decide +kernel
theorem d_MD_evaluate_134 : decode b_MD_evaluate 134 = .ok (.aload_n 0, 1) := by decide +kernel
theorem d_MD_evaluate_135 : decode b_MD_evaluate 135 = .ok (.getfield 16, 3) := by decide +kernel
theorem d_MD_evaluate_138 : decode b_MD_evaluate 138 = .ok (.iload_n 1, 1) := by decide +kernel
theorem d_MD_evaluate_139 : decode b_MD_evaluate 139 = .ok (.iaload, 1) := by decide +kernel
theorem d_MD_evaluate_140 : decode b_MD_evaluate 140 = .ok (.iaload, 1) := by decide +kernel
theorem d_MD_evaluate_141 : decode b_MD_evaluate 141 = .ok (.invokevirtual 155, 3) := by decide +kernel
theorem d_MD_evaluate_144 : decode b_MD_evaluate 144 = .ok (.aload_n 0, 1) := by decide +kernel
theorem d_MD_evaluate_145 : decode b_MD_evaluate 145 = .ok (.iconst 0, 1) := by decide +kernel
theorem d_MD_evaluate_146 : decode b_MD_evaluate 146 = .ok (.aload_n 0, 1) := by decide +kernel
theorem d_MD_evaluate_147 : decode b_MD_evaluate 147 = .ok (.getfield 13, 3) := by decide +kernel
theorem d_MD_evaluate_150 : decode b_MD_evaluate 150 = .ok (.iload_n 1, 1) := by decide +kernel
theorem d_MD_evaluate_151 : decode b_MD_evaluate 151 = .ok (.iaload, 1) := by decide +kernel
theorem d_MD_evaluate_152 : decode b_MD_evaluate 152 = .ok (.invokevirtual 159, 3) := by decide +kernel
theorem d_MD_evaluate_155 : decode b_MD_evaluate 155 = .ok (.goto 96, 3) := by decide +kernel
theorem d_MD_evaluate_158 : decode b_MD_evaluate 158 = .ok (.aload_n 0, 1) := by decide +kernel
theorem d_MD_evaluate_159 : decode b_MD_evaluate 159 = .ok (.iconst 2, 1) := by decide +kernel
theorem d_MD_evaluate_160 : decode b_MD_evaluate 160 = .ok (.aload_n 0, 1) := by decide +kernel
theorem d_MD_evaluate_161 : decode b_MD_evaluate 161 = .ok (.getfield 16, 3) := by decide +kernel
theorem d_MD_evaluate_164 : decode b_MD_evaluate 164 = .ok (.iload_n 1, 1) := by decide +kernel
theorem d_MD_evaluate_165 : decode b_MD_evaluate 165 = .ok (.iaload, 1) := by decide +kernel
theorem d_MD_evaluate_166 : decode b_MD_evaluate 166 = .ok (.aload_n 0, 1) := by decide +kernel
theorem d_MD_evaluate_167 : decode b_MD_evaluate 167 = .ok (.getfield 19, 3) := by decide +kernel
theorem d_MD_evaluate_170 : decode b_MD_evaluate 170 = .ok (.iload_n 1, 1) := by decide +kernel
theorem d_MD_evaluate_171 : decode b_MD_evaluate 171 = .ok (.iaload, 1) := by decide +kernel
theorem d_MD_evaluate_172 : decode b_MD_evaluate 172 = .ok (.aload_n 0, 1) := by decide +kernel
theorem d_MD_evaluate_173 : decode b_MD_evaluate 173 = .ok (.getfield 22, 3) := by decide +kernel
theorem d_MD_evaluate_176 : decode b_MD_evaluate 176 = .ok (.aload_n 0, 1) := by decide +kernel
theorem d_MD_evaluate_177 : decode b_MD_evaluate 177 = .ok (.getfield 16, 3) := by decide +kernel
theorem d_MD_evaluate_180 : decode b_MD_evaluate 180 = .ok (.iload_n 1, 1) := by decide +kernel
theorem d_MD_evaluate_181 : decode b_MD_evaluate 181 = .ok (.iaload, 1) := by decide +kernel
theorem d_MD_evaluate_182 : decode b_MD_evaluate 182 = .ok (.iaload, 1) := by decide +kernel
theorem d_MD_evaluate_183 : decode b_MD_evaluate 183 = .ok (.invokevirtual 155, 3) := by decide +kernel
theorem d_MD_evaluate_186 : decode b_MD_evaluate 186 = .ok (.aload_n 0, 1) := by decide +kernel
theorem d_MD_evaluate_187 : decode b_MD_evaluate 187 = .ok (.iconst 0, 1) := by decide +kernel
theorem d_MD_evaluate_188 : decode b_MD_evaluate 188 = .ok (.aload_n 0, 1) := by decide +kernel
theorem d_MD_evaluate_189 : decode b_MD_evaluate 189 = .ok (.getfield 13, 3) := by decide +kernel
theorem d_MD_evaluate_192 : decode b_MD_evaluate 192 = .ok (.iload_n 1, 1) := by decide +kernel
theorem d_MD_evaluate_193 : decode b_MD_evaluate 193 = .ok (.iaload, 1) := by decide +kernel
theorem d_MD_evaluate_194 : decode b_MD_evaluate 194 = .ok (.invokevirtual 159, 3) := by decide +kernel
theorem d_MD_evaluate_197 : decode b_MD_evaluate 197 = .ok (.goto 54, 3) := by decide +kernel
theorem d_MD_evaluate_200 : decode b_MD_evaluate 200 = .ok (.aload_n 0, 1) := by decide +kernel
theorem d_MD_evaluate_201 : decode b_MD_evaluate 201 = .ok (.iconst 4, 1) := by decide +kernel
theorem d_MD_evaluate_202 : decode b_MD_evaluate 202 = .ok (.aload_n 0, 1) := by decide +kernel
theorem d_MD_evaluate_203 : decode b_MD_evaluate 203 = .ok (.getfield 16, 3) := by decide +kernel
theorem d_MD_evaluate_206 : decode b_MD_evaluate 206 = .ok (.iload_n 1, 1) := by decide +kernel
theorem d_MD_evaluate_207 : decode b_MD_evaluate 207 = .ok (.iaload, 1) := by decide +kernel
theorem d_MD_evaluate_208 : decode b_MD_evaluate 208 = .ok (.aload_n 0, 1) := by decide +kernel
theorem d_MD_evaluate_209 : decode b_MD_evaluate 209 = .ok (.getfield 19, 3) := by decide +kernel
theorem d_MD_evaluate_212 : decode b_MD_evaluate 212 = .ok (.iload_n 1, 1) := by decide +kernel
theorem d_MD_evaluate_213 : decode b_MD_evaluate 213 = .ok (.iaload, 1) := by decide +kernel
theorem d_MD_evaluate_214 : decode b_MD_evaluate 214 = .ok (.aload_n 0, 1) := by decide +kernel
theorem d_MD_evaluate_215 : decode b_MD_evaluate 215 = .ok (.getfield 22, 3) := by decide +kernel
theorem d_MD_evaluate_218 : decode b_MD_evaluate 218 = .ok (.aload_n 0, 1) := by decide +kernel
theorem d_MD_evaluate_219 : decode b_MD_evaluate 219 = .ok (.getfield 16, 3) := by decide +kernel
theorem d_MD_evaluate_222 : decode b_MD_evaluate 222 = .ok (.iload_n 1, 1) := by decide +kernel
theorem d_MD_evaluate_223 : decode b_MD_evaluate 223 = .ok (.iaload, 1) := by decide +kernel
theorem d_MD_evaluate_224 : decode b_MD_evaluate 224 = .ok (.iaload, 1) := by decide +kernel
theorem d_MD_evaluate_225 : decode b_MD_evaluate 225 = .ok (.aload_n 0, 1) := by decide +kernel
theorem d_MD_evaluate_226 : decode b_MD_evaluate 226 = .ok (.getfield 22, 3) := by decide +kernel
theorem d_MD_evaluate_229 : decode b_MD_evaluate 229 = .ok (.aload_n 0, 1) := by decide +kernel
theorem d_MD_evaluate_230 : decode b_MD_evaluate 230 = .ok (.getfield 19, 3) := by decide +kernel
theorem d_MD_evaluate_233 : decode b_MD_evaluate 233 = .ok (.iload_n 1, 1) := by decide +kernel
theorem d_MD_evaluate_234 : decode b_MD_evaluate 234 = .ok (.iaload, 1) := by decide +kernel
theorem d_MD_evaluate_235 : decode b_MD_evaluate 235 = .ok (.iaload, 1) := by decide +kernel
theorem d_MD_evaluate_236 : decode b_MD_evaluate 236 = .ok (.ior, 1) := by decide +kernel
theorem d_MD_evaluate_237 : decode b_MD_evaluate 237 = .ok (.invokevirtual 155, 3) := by decide +kernel
theorem d_MD_evaluate_240 : decode b_MD_evaluate 240 = .ok (.aload_n 0, 1) := by decide +kernel
theorem d_MD_evaluate_241 : decode b_MD_evaluate 241 = .ok (.iconst 0, 1) := by decide +kernel
theorem d_MD_evaluate_242 : decode b_MD_evaluate 242 = .ok (.aload_n 0, 1) := by decide +kernel
theorem d_MD_evaluate_243 : decode b_MD_evaluate 243 = .ok (.getfield 13, 3) := by decide +kernel
theorem d_MD_evaluate_246 : decode b_MD_evaluate 246 = .ok (.iload_n 1, 1) := by decide +kernel
theorem d_MD_evaluate_247 : decode b_MD_evaluate 247 = .ok (.iaload, 1) := by decide +kernel
theorem d_MD_evaluate_248 : decode b_MD_evaluate 248 = .ok (.invokevirtual 159, 3) := by decide +kernel
theorem d_MD_evaluate_251 : decode b_MD_evaluate 251 = .ok (.return_, 1) := by decide +kernel
set_option maxHeartbeats 4000000 in
set_option maxRecDepth 100000 in
theorem c_MD_evaluate (l : Launch) (D : va_G) (cI cZ : ClassId) (ad : Nat → Nat) (e : Nat) (F : Nat) (c : Nat) (u : tm_SC) (hE : ms_EI u e F c) : tm_V l y_MD_evaluate b_MD_evaluate 2 ({ frames := 2, cells := 0, slots := 0, locals := 48 } : Room) D (tm_yM cI cZ) (tm_wM ad cI cZ) [.ref (ad 0)] u (fun u' => u' = (ms_evl u e F c)) := by
  intro sz
  refine tm_of (Qc := fun A => va_Qv (fun u' => u' = (ms_evl u e F c)) (fun u' t => tm_B D (tm_yM cI cZ) A (tm_wM ad cI cZ u') t) A) (by decide) (Nat.le_of_ble_eq_true rfl) ?_ sz
  intro pg eg sg mg bel met cg A ls X h hl hnm
  have hx := X.1.1
  have hb := X.1.2.1
  have hl : lv_has ls 2 [(0, .ref (ad 0))] := hl
  refine lv_aload_n hx hb d_MD_evaluate_0 rfl (lv_at hl 0 rfl) ?_
  refine tm_get X h uw_MD 0 rfl rfl 20 (by decide) kw_592 rfl rfl d_MD_evaluate_1 ?_
  refine tm_top (y := nI e) (hE.1) ?_
  refine lv_istore_n hx hb d_MD_evaluate_4 rfl hl (by decide) rfl (fun ls (hl : lv_has ls 2 [(1, .int (nI e)), (0, .ref (ad 0))]) => ?_)
  refine lv_aload_n hx hb d_MD_evaluate_5 rfl (lv_at hl 1 rfl) ?_
  refine tm_get X h uw_MD 0 rfl rfl 1 (by decide) kw_573 rfl rfl d_MD_evaluate_6 ?_
  refine lv_iload_n hx hb d_MD_evaluate_9 rfl (lv_at hl 0 rfl) ?_
  refine tm_iald X h 1 0 rfl rfl (e) (hE.2.1) (rfl) (by decide) d_MD_evaluate_10 ?_
  by_cases q11_0 : ((u).2.1 0 (e)) = 0
  · refine tm_sw 0 q11_0 hx hb d_MD_evaluate_11 (tgt := 44) (by decide) (by decide) rfl rfl ?_
    refine lv_aload_n hx hb d_MD_evaluate_44 rfl (lv_at hl 1 rfl) ?_
    refine lv_aload_n hx hb d_MD_evaluate_45 rfl (lv_at hl 1 rfl) ?_
    refine tm_get X h uw_MD 0 rfl rfl 2 (by decide) kw_574 rfl rfl d_MD_evaluate_46 ?_
    refine lv_iload_n hx hb d_MD_evaluate_49 rfl (lv_at hl 0 rfl) ?_
    refine tm_iald X h 2 0 rfl rfl (e) (hE.2.1) (rfl) (by decide) d_MD_evaluate_50 ?_
    refine lv_iconst (v := 0) hx hb d_MD_evaluate_51 (by decide) ?_
    refine tm_cVf X h (tm_rV (q0 := 0) X h (c_MD_giveBack l D cI cZ ad (((u).2.1 1 (e))) (0) u (Or.inl rfl) _) ki_MD_giveBack kw_765 rfl rfl rfl rfl rfl ⟨by decide, by decide⟩ rfl hl.1 rfl (Nat.le_of_ble_eq_true rfl) d_MD_evaluate_52 ⟨by decide, by decide⟩) (fun H locs h => ?_)
    refine lv_goto hx hb d_MD_evaluate_55 (tgt := 251) rfl ?_
    exact tm_vret (w := tm_wM ad cI cZ) (u := (ms_gb u (((u).2.1 1 (e))) (0))) X h ((if_pos q11_0).symm) d_MD_evaluate_251
  by_cases q11_1 : ((u).2.1 0 (e)) = 1
  · refine tm_sw 1 q11_1 hx hb d_MD_evaluate_11 (tgt := 58) (by decide) (by decide) rfl rfl ?_
    have hv8 := hE.2.2.2.2.2.1 q11_1
    refine lv_aload_n hx hb d_MD_evaluate_58 rfl (lv_at hl 1 rfl) ?_
    refine tm_get X h uw_MD 0 rfl rfl 7 (by decide) kw_579 rfl rfl d_MD_evaluate_59 ?_
    refine lv_iconst (v := 0) hx hb d_MD_evaluate_62 (by decide) ?_
    refine tm_iald X h 7 0 rfl rfl (0) (by decide) (rfl) (by decide) d_MD_evaluate_63 ?_
    refine lv_aload_n hx hb d_MD_evaluate_64 rfl (lv_at hl 1 rfl) ?_
    refine tm_get X h uw_MD 0 rfl rfl 2 (by decide) kw_574 rfl rfl d_MD_evaluate_65 ?_
    refine lv_iload_n hx hb d_MD_evaluate_68 rfl (lv_at hl 0 rfl) ?_
    refine tm_iald X h 2 0 rfl rfl (e) (hE.2.1) (rfl) (by decide) d_MD_evaluate_69 ?_
    refine lv_ishr hx hb d_MD_evaluate_70 ?_
    refine lv_iconst (v := 1) hx hb d_MD_evaluate_71 (by decide) ?_
    refine lv_iand hx hb d_MD_evaluate_72 ?_
    refine tm_top (y := ms_bt (u.2.1 6 0) (u.2.1 1 e)) (rfl) ?_
    refine lv_if_ne hx hb d_MD_evaluate_73 (tgt := 84) rfl (fun h73t => ?_) (fun h73f => ?_)
    · refine lv_aload_n hx hb d_MD_evaluate_84 rfl (lv_at hl 1 rfl) ?_
      refine lv_aload_n hx hb d_MD_evaluate_85 rfl (lv_at hl 1 rfl) ?_
      refine tm_get X h uw_MD 0 rfl rfl 8 (by decide) kw_580 rfl rfl d_MD_evaluate_86 ?_
      refine lv_aload_n hx hb d_MD_evaluate_89 rfl (lv_at hl 1 rfl) ?_
      refine tm_get X h uw_MD 0 rfl rfl 2 (by decide) kw_574 rfl rfl d_MD_evaluate_90 ?_
      refine lv_iload_n hx hb d_MD_evaluate_93 rfl (lv_at hl 0 rfl) ?_
      refine tm_iald X h 2 0 rfl rfl (e) (hE.2.1) (rfl) (by decide) d_MD_evaluate_94 ?_
      refine tm_iald X h 8 0 rfl rfl ((u.2.1 1 e).toNatClampNeg) (by have := (tm_vin hv8 (by decide)).1; omega) ((tm_vin hv8 (by decide)).2) (by decide) d_MD_evaluate_95 ?_
      refine lv_aload_n hx hb d_MD_evaluate_96 rfl (lv_at hl 1 rfl) ?_
      refine tm_get X h uw_MD 0 rfl rfl 9 (by decide) kw_581 rfl rfl d_MD_evaluate_97 ?_
      refine lv_aload_n hx hb d_MD_evaluate_100 rfl (lv_at hl 1 rfl) ?_
      refine tm_get X h uw_MD 0 rfl rfl 2 (by decide) kw_574 rfl rfl d_MD_evaluate_101 ?_
      refine lv_iload_n hx hb d_MD_evaluate_104 rfl (lv_at hl 0 rfl) ?_
      refine tm_iald X h 2 0 rfl rfl (e) (hE.2.1) (rfl) (by decide) d_MD_evaluate_105 ?_
      refine tm_zald X h 9 1 rfl rfl ((u.2.1 1 e).toNatClampNeg) (by have := (tm_vin hv8 (by decide)).1; omega) ((tm_vin hv8 (by decide)).2) (by decide) d_MD_evaluate_106 ?_
      refine tm_cVf X h (tm_rV (q0 := 0) X h (c_MD_giveBack l D cI cZ ad (((u).2.1 7 ((u.2.1 1 e).toNatClampNeg))) (((u).2.1 8 ((u.2.1 1 e).toNatClampNeg))) u (hE.2.2.2.2.1 _) _) ki_MD_giveBack kw_765 rfl rfl rfl rfl rfl ⟨by decide, by decide⟩ rfl hl.1 rfl (Nat.le_of_ble_eq_true rfl) d_MD_evaluate_107 ⟨by decide, by decide⟩) (fun H locs h => ?_)
      refine lv_goto hx hb d_MD_evaluate_110 (tgt := 251) rfl ?_
      exact tm_vret (w := tm_wM ad cI cZ) (u := (ms_gb u (((u).2.1 7 ((u.2.1 1 e).toNatClampNeg))) (((u).2.1 8 ((u.2.1 1 e).toNatClampNeg))))) X h (by unfold ms_evl; rw [if_neg q11_0, if_pos q11_1, if_neg h73t]) d_MD_evaluate_251
    · refine lv_aload_n hx hb d_MD_evaluate_76 rfl (lv_at hl 1 rfl) ?_
      refine lv_iconst (v := 2) hx hb d_MD_evaluate_77 (by decide) ?_
      refine tm_put X h uw_MD t_MD t_MD_ok n_MD 0 rfl rfl 29 (by decide) kw_601 rfl rfl (rfl) (rfl) (Nat.le_of_ble_eq_true rfl) (ws' := tm_wM ad cI cZ (tm_sf u 12 (2))) rfl d_MD_evaluate_78 (fun H locs h => ?_)
      refine lv_goto hx hb d_MD_evaluate_81 (tgt := 251) rfl ?_
      exact tm_vret (w := tm_wM ad cI cZ) (u := (tm_sf u 12 (2))) X h (by unfold ms_evl; rw [if_neg q11_0, if_pos q11_1, if_pos h73f]) d_MD_evaluate_251
  by_cases q11_2 : ((u).2.1 0 (e)) = 2
  · refine tm_sw 2 q11_2 hx hb d_MD_evaluate_11 (tgt := 113) (by decide) (by decide) rfl rfl ?_
    have hc2 := hE.2.2.2.2.2.2.1 q11_2
    refine lv_aload_n hx hb d_MD_evaluate_113 rfl (lv_at hl 1 rfl) ?_
    refine lv_iload_n hx hb d_MD_evaluate_114 rfl (lv_at hl 0 rfl) ?_
    refine tm_cVf X h (tm_rV (q0 := 0) X h (c_MD_closure l D cI cZ ad (e) (c) u (hE.2.1) (hc2.1) (hc2.2.1) (hc2.2.2) (hE.2.2.2.2.1) _) ki_MD_closure kw_781 rfl rfl rfl rfl rfl ⟨by decide, by decide⟩ rfl hl.1 rfl (Nat.le_of_ble_eq_true rfl) d_MD_evaluate_115 ⟨by decide, by decide⟩) (fun H locs h => ?_)
    refine lv_goto hx hb d_MD_evaluate_118 (tgt := 251) rfl ?_
    exact tm_vret (w := tm_wM ad cI cZ) (u := (ms_clo u (e) (c))) X h (by unfold ms_evl; rw [if_neg q11_0, if_neg q11_1, if_pos q11_2]) d_MD_evaluate_251
  by_cases q11_3 : ((u).2.1 0 (e)) = 3
  · refine tm_sw 3 q11_3 hx hb d_MD_evaluate_11 (tgt := 121) (by decide) (by decide) rfl rfl ?_
    have hv0 := hE.2.2.2.2.2.2.2 q11_0 q11_1 q11_2
    have hv1 := hv0.1
    have hv2 := hv0.2.1
    refine lv_aload_n hx hb d_MD_evaluate_121 rfl (lv_at hl 1 rfl) ?_
    refine lv_iconst (v := 0) hx hb d_MD_evaluate_122 (by decide) ?_
    refine lv_aload_n hx hb d_MD_evaluate_123 rfl (lv_at hl 1 rfl) ?_
    refine tm_get X h uw_MD 0 rfl rfl 3 (by decide) kw_575 rfl rfl d_MD_evaluate_124 ?_
    refine lv_iload_n hx hb d_MD_evaluate_127 rfl (lv_at hl 0 rfl) ?_
    refine tm_iald X h 3 0 rfl rfl (e) (hE.2.1) (rfl) (by decide) d_MD_evaluate_128 ?_
    refine lv_iconst (v := 0) hx hb d_MD_evaluate_129 (by decide) ?_
    refine lv_aload_n hx hb d_MD_evaluate_130 rfl (lv_at hl 1 rfl) ?_
    refine tm_get X h uw_MD 0 rfl rfl 5 (by decide) kw_577 rfl rfl d_MD_evaluate_131 ?_
    refine lv_aload_n hx hb d_MD_evaluate_134 rfl (lv_at hl 1 rfl) ?_
    refine tm_get X h uw_MD 0 rfl rfl 3 (by decide) kw_575 rfl rfl d_MD_evaluate_135 ?_
    refine lv_iload_n hx hb d_MD_evaluate_138 rfl (lv_at hl 0 rfl) ?_
    refine tm_iald X h 3 0 rfl rfl (e) (hE.2.1) (rfl) (by decide) d_MD_evaluate_139 ?_
    refine tm_iald X h 5 0 rfl rfl ((u.2.1 2 e).toNatClampNeg) ((tm_vin hv2 (by decide)).1) ((tm_vin hv2 (by decide)).2) (by decide) d_MD_evaluate_140 ?_
    refine tm_cVf X h (tm_rV (q0 := 0) X h (c_MD_push l D cI cZ ad (F) (0) (((u).2.1 2 (e))) (0) (((u).2.1 4 ((u.2.1 2 e).toNatClampNeg))) u (hE.2.2.1) (by have := hE.2.2.2.1; omega) (hE.2.2.2.2.1) _) ki_MD_push kw_785 rfl rfl rfl rfl rfl ⟨by decide, by decide⟩ rfl hl.1 rfl (Nat.le_of_ble_eq_true rfl) d_MD_evaluate_141 ⟨by decide, by decide⟩) (fun H locs h => ?_)
    refine lv_aload_n hx hb d_MD_evaluate_144 rfl (lv_at hl 1 rfl) ?_
    refine lv_iconst (v := 0) hx hb d_MD_evaluate_145 (by decide) ?_
    refine lv_aload_n hx hb d_MD_evaluate_146 rfl (lv_at hl 1 rfl) ?_
    refine tm_get X h uw_MD 0 rfl rfl 2 (by decide) kw_574 rfl rfl d_MD_evaluate_147 ?_
    refine lv_iload_n hx hb d_MD_evaluate_150 rfl (lv_at hl 0 rfl) ?_
    refine tm_iald X h 2 0 rfl rfl (e) (hE.2.1) (rfl) (by decide) d_MD_evaluate_151 ?_
    refine tm_top (y := nI ((u.2.1 1 e).toNatClampNeg)) ((by rw [ms_push_a u F _ _ _ _ (by decide) (by decide) (by decide) (by decide) (by decide) (by decide)]; exact (tm_vin hv1 (by decide)).2)) ?_
    refine tm_cVf X h (tm_rV (q0 := 0) X h (c_MD_evaluateIn l D cI cZ ad (0) ((u.2.1 1 e).toNatClampNeg) (ms_push u (F) (0) (((u).2.1 2 (e))) (0) (((u).2.1 4 ((u.2.1 2 e).toNatClampNeg)))) (by decide) ((tm_vin hv1 (by decide)).1) (ms_push_b hE.2.2.2.2.1) _) ki_MD_evaluateIn kw_754 rfl rfl rfl rfl rfl ⟨by decide, by decide⟩ rfl hl.1 rfl (Nat.le_of_ble_eq_true rfl) d_MD_evaluate_152 ⟨by decide, by decide⟩) (fun H locs h => ?_)
    refine lv_goto hx hb d_MD_evaluate_155 (tgt := 251) rfl ?_
    exact tm_vret (w := tm_wM ad cI cZ) (u := (ms_ei (ms_push u (F) (0) (((u).2.1 2 (e))) (0) (((u).2.1 4 ((u.2.1 2 e).toNatClampNeg)))) (0) ((u.2.1 1 e).toNatClampNeg))) X h (by unfold ms_evl; rw [if_neg q11_0, if_neg q11_1, if_neg q11_2, if_pos q11_3]) d_MD_evaluate_251
  by_cases q11_4 : ((u).2.1 0 (e)) = 4
  · refine tm_sw 4 q11_4 hx hb d_MD_evaluate_11 (tgt := 158) (by decide) (by decide) rfl rfl ?_
    have hv0 := hE.2.2.2.2.2.2.2 q11_0 q11_1 q11_2
    have hv1 := hv0.1
    have hv2 := hv0.2.1
    refine lv_aload_n hx hb d_MD_evaluate_158 rfl (lv_at hl 1 rfl) ?_
    refine lv_iconst (v := 2) hx hb d_MD_evaluate_159 (by decide) ?_
    refine lv_aload_n hx hb d_MD_evaluate_160 rfl (lv_at hl 1 rfl) ?_
    refine tm_get X h uw_MD 0 rfl rfl 3 (by decide) kw_575 rfl rfl d_MD_evaluate_161 ?_
    refine lv_iload_n hx hb d_MD_evaluate_164 rfl (lv_at hl 0 rfl) ?_
    refine tm_iald X h 3 0 rfl rfl (e) (hE.2.1) (rfl) (by decide) d_MD_evaluate_165 ?_
    refine lv_aload_n hx hb d_MD_evaluate_166 rfl (lv_at hl 1 rfl) ?_
    refine tm_get X h uw_MD 0 rfl rfl 4 (by decide) kw_576 rfl rfl d_MD_evaluate_167 ?_
    refine lv_iload_n hx hb d_MD_evaluate_170 rfl (lv_at hl 0 rfl) ?_
    refine tm_iald X h 4 0 rfl rfl (e) (hE.2.1) (rfl) (by decide) d_MD_evaluate_171 ?_
    refine lv_aload_n hx hb d_MD_evaluate_172 rfl (lv_at hl 1 rfl) ?_
    refine tm_get X h uw_MD 0 rfl rfl 5 (by decide) kw_577 rfl rfl d_MD_evaluate_173 ?_
    refine lv_aload_n hx hb d_MD_evaluate_176 rfl (lv_at hl 1 rfl) ?_
    refine tm_get X h uw_MD 0 rfl rfl 3 (by decide) kw_575 rfl rfl d_MD_evaluate_177 ?_
    refine lv_iload_n hx hb d_MD_evaluate_180 rfl (lv_at hl 0 rfl) ?_
    refine tm_iald X h 3 0 rfl rfl (e) (hE.2.1) (rfl) (by decide) d_MD_evaluate_181 ?_
    refine tm_iald X h 5 0 rfl rfl ((u.2.1 2 e).toNatClampNeg) ((tm_vin hv2 (by decide)).1) ((tm_vin hv2 (by decide)).2) (by decide) d_MD_evaluate_182 ?_
    refine tm_cVf X h (tm_rV (q0 := 0) X h (c_MD_push l D cI cZ ad (F) (2) (((u).2.1 2 (e))) (((u).2.1 3 (e))) (((u).2.1 4 ((u.2.1 2 e).toNatClampNeg))) u (hE.2.2.1) (by have := hE.2.2.2.1; omega) (hE.2.2.2.2.1) _) ki_MD_push kw_785 rfl rfl rfl rfl rfl ⟨by decide, by decide⟩ rfl hl.1 rfl (Nat.le_of_ble_eq_true rfl) d_MD_evaluate_183 ⟨by decide, by decide⟩) (fun H locs h => ?_)
    refine lv_aload_n hx hb d_MD_evaluate_186 rfl (lv_at hl 1 rfl) ?_
    refine lv_iconst (v := 0) hx hb d_MD_evaluate_187 (by decide) ?_
    refine lv_aload_n hx hb d_MD_evaluate_188 rfl (lv_at hl 1 rfl) ?_
    refine tm_get X h uw_MD 0 rfl rfl 2 (by decide) kw_574 rfl rfl d_MD_evaluate_189 ?_
    refine lv_iload_n hx hb d_MD_evaluate_192 rfl (lv_at hl 0 rfl) ?_
    refine tm_iald X h 2 0 rfl rfl (e) (hE.2.1) (rfl) (by decide) d_MD_evaluate_193 ?_
    refine tm_top (y := nI ((u.2.1 1 e).toNatClampNeg)) ((by rw [ms_push_a u F _ _ _ _ (by decide) (by decide) (by decide) (by decide) (by decide) (by decide)]; exact (tm_vin hv1 (by decide)).2)) ?_
    refine tm_cVf X h (tm_rV (q0 := 0) X h (c_MD_evaluateIn l D cI cZ ad (0) ((u.2.1 1 e).toNatClampNeg) (ms_push u (F) (2) (((u).2.1 2 (e))) (((u).2.1 3 (e))) (((u).2.1 4 ((u.2.1 2 e).toNatClampNeg)))) (by decide) ((tm_vin hv1 (by decide)).1) (ms_push_b hE.2.2.2.2.1) _) ki_MD_evaluateIn kw_754 rfl rfl rfl rfl rfl ⟨by decide, by decide⟩ rfl hl.1 rfl (Nat.le_of_ble_eq_true rfl) d_MD_evaluate_194 ⟨by decide, by decide⟩) (fun H locs h => ?_)
    refine lv_goto hx hb d_MD_evaluate_197 (tgt := 251) rfl ?_
    exact tm_vret (w := tm_wM ad cI cZ) (u := (ms_ei (ms_push u (F) (2) (((u).2.1 2 (e))) (((u).2.1 3 (e))) (((u).2.1 4 ((u.2.1 2 e).toNatClampNeg)))) (0) ((u.2.1 1 e).toNatClampNeg))) X h (by unfold ms_evl; rw [if_neg q11_0, if_neg q11_1, if_neg q11_2, if_neg q11_3, if_pos q11_4]) d_MD_evaluate_251
  refine lv_tableOut hx hb d_MD_evaluate_11 (tm_swo5 q11_0 q11_1 q11_2 q11_3 q11_4) (tgt := 200) rfl ?_
  have hv0 := hE.2.2.2.2.2.2.2 q11_0 q11_1 q11_2
  have hv1 := hv0.1
  have hv2 := hv0.2.1
  have hv3 := hv0.2.2 q11_3 q11_4
  refine lv_aload_n hx hb d_MD_evaluate_200 rfl (lv_at hl 1 rfl) ?_
  refine lv_iconst (v := 4) hx hb d_MD_evaluate_201 (by decide) ?_
  refine lv_aload_n hx hb d_MD_evaluate_202 rfl (lv_at hl 1 rfl) ?_
  refine tm_get X h uw_MD 0 rfl rfl 3 (by decide) kw_575 rfl rfl d_MD_evaluate_203 ?_
  refine lv_iload_n hx hb d_MD_evaluate_206 rfl (lv_at hl 0 rfl) ?_
  refine tm_iald X h 3 0 rfl rfl (e) (hE.2.1) (rfl) (by decide) d_MD_evaluate_207 ?_
  refine lv_aload_n hx hb d_MD_evaluate_208 rfl (lv_at hl 1 rfl) ?_
  refine tm_get X h uw_MD 0 rfl rfl 4 (by decide) kw_576 rfl rfl d_MD_evaluate_209 ?_
  refine lv_iload_n hx hb d_MD_evaluate_212 rfl (lv_at hl 0 rfl) ?_
  refine tm_iald X h 4 0 rfl rfl (e) (hE.2.1) (rfl) (by decide) d_MD_evaluate_213 ?_
  refine lv_aload_n hx hb d_MD_evaluate_214 rfl (lv_at hl 1 rfl) ?_
  refine tm_get X h uw_MD 0 rfl rfl 5 (by decide) kw_577 rfl rfl d_MD_evaluate_215 ?_
  refine lv_aload_n hx hb d_MD_evaluate_218 rfl (lv_at hl 1 rfl) ?_
  refine tm_get X h uw_MD 0 rfl rfl 3 (by decide) kw_575 rfl rfl d_MD_evaluate_219 ?_
  refine lv_iload_n hx hb d_MD_evaluate_222 rfl (lv_at hl 0 rfl) ?_
  refine tm_iald X h 3 0 rfl rfl (e) (hE.2.1) (rfl) (by decide) d_MD_evaluate_223 ?_
  refine tm_iald X h 5 0 rfl rfl ((u.2.1 2 e).toNatClampNeg) ((tm_vin hv2 (by decide)).1) ((tm_vin hv2 (by decide)).2) (by decide) d_MD_evaluate_224 ?_
  refine lv_aload_n hx hb d_MD_evaluate_225 rfl (lv_at hl 1 rfl) ?_
  refine tm_get X h uw_MD 0 rfl rfl 5 (by decide) kw_577 rfl rfl d_MD_evaluate_226 ?_
  refine lv_aload_n hx hb d_MD_evaluate_229 rfl (lv_at hl 1 rfl) ?_
  refine tm_get X h uw_MD 0 rfl rfl 4 (by decide) kw_576 rfl rfl d_MD_evaluate_230 ?_
  refine lv_iload_n hx hb d_MD_evaluate_233 rfl (lv_at hl 0 rfl) ?_
  refine tm_iald X h 4 0 rfl rfl (e) (hE.2.1) (rfl) (by decide) d_MD_evaluate_234 ?_
  refine tm_iald X h 5 0 rfl rfl ((u.2.1 3 e).toNatClampNeg) ((tm_vin hv3 (by decide)).1) ((tm_vin hv3 (by decide)).2) (by decide) d_MD_evaluate_235 ?_
  refine lv_ior hx hb d_MD_evaluate_236 ?_
  refine tm_cVf X h (tm_rV (q0 := 0) X h (c_MD_push l D cI cZ ad (F) (4) (((u).2.1 2 (e))) (((u).2.1 3 (e))) ((((u).2.1 4 ((u.2.1 2 e).toNatClampNeg)) ||| ((u).2.1 4 ((u.2.1 3 e).toNatClampNeg)))) u (hE.2.2.1) (by have := hE.2.2.2.1; omega) (hE.2.2.2.2.1) _) ki_MD_push kw_785 rfl rfl rfl rfl rfl ⟨by decide, by decide⟩ rfl hl.1 rfl (Nat.le_of_ble_eq_true rfl) d_MD_evaluate_237 ⟨by decide, by decide⟩) (fun H locs h => ?_)
  refine lv_aload_n hx hb d_MD_evaluate_240 rfl (lv_at hl 1 rfl) ?_
  refine lv_iconst (v := 0) hx hb d_MD_evaluate_241 (by decide) ?_
  refine lv_aload_n hx hb d_MD_evaluate_242 rfl (lv_at hl 1 rfl) ?_
  refine tm_get X h uw_MD 0 rfl rfl 2 (by decide) kw_574 rfl rfl d_MD_evaluate_243 ?_
  refine lv_iload_n hx hb d_MD_evaluate_246 rfl (lv_at hl 0 rfl) ?_
  refine tm_iald X h 2 0 rfl rfl (e) (hE.2.1) (rfl) (by decide) d_MD_evaluate_247 ?_
  refine tm_top (y := nI ((u.2.1 1 e).toNatClampNeg)) ((by rw [ms_push_a u F _ _ _ _ (by decide) (by decide) (by decide) (by decide) (by decide) (by decide)]; exact (tm_vin hv1 (by decide)).2)) ?_
  refine tm_cVf X h (tm_rV (q0 := 0) X h (c_MD_evaluateIn l D cI cZ ad (0) ((u.2.1 1 e).toNatClampNeg) (ms_push u (F) (4) (((u).2.1 2 (e))) (((u).2.1 3 (e))) ((((u).2.1 4 ((u.2.1 2 e).toNatClampNeg)) ||| ((u).2.1 4 ((u.2.1 3 e).toNatClampNeg))))) (by decide) ((tm_vin hv1 (by decide)).1) (ms_push_b hE.2.2.2.2.1) _) ki_MD_evaluateIn kw_754 rfl rfl rfl rfl rfl ⟨by decide, by decide⟩ rfl hl.1 rfl (Nat.le_of_ble_eq_true rfl) d_MD_evaluate_248 ⟨by decide, by decide⟩) (fun H locs h => ?_)
  exact tm_vret (w := tm_wM ad cI cZ) (u := (ms_ei (ms_push u (F) (4) (((u).2.1 2 (e))) (((u).2.1 3 (e))) ((((u).2.1 4 ((u.2.1 2 e).toNatClampNeg)) ||| ((u).2.1 4 ((u.2.1 3 e).toNatClampNeg))))) (0) ((u.2.1 1 e).toNatClampNeg))) X h (by unfold ms_evl; rw [if_neg q11_0, if_neg q11_1, if_neg q11_2, if_neg q11_3, if_neg q11_4]) d_MD_evaluate_251
