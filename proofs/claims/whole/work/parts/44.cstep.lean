theorem kw_99 : (Jvm.Cond.fieldLinkNest "TrimmedMachine" (88 : Nat) "TrimmedMachine$Closures" "living" "I" "TrimmedMachine") ∈ tm_nw := tm_nin (List.mem_append_left _ (List.mem_of_getElem? (i := 99) (by decide +kernel))) rfl
theorem kw_114 : (Jvm.Cond.fieldLinkNest "TrimmedMachine" (84 : Nat) "TrimmedMachine$Run" "closures" "LTrimmedMachine$Closures;" "TrimmedMachine") ∈ tm_nw := tm_nin (List.mem_append_left _ (List.mem_of_getElem? (i := 114) (by decide +kernel))) rfl
theorem kw_118 : (Jvm.Cond.fieldLinkNest "TrimmedMachine" (81 : Nat) "TrimmedMachine$Run" "frames" "I" "TrimmedMachine") ∈ tm_nw := tm_nin (List.mem_append_left _ (List.mem_of_getElem? (i := 118) (by decide +kernel))) rfl
theorem kw_123 : (Jvm.Cond.fieldLinkNest "TrimmedMachine" (72 : Nat) "TrimmedMachine$Run" "stepsDone" "I" "TrimmedMachine") ∈ tm_nw := tm_nin (List.mem_append_left _ (List.mem_of_getElem? (i := 123) (by decide +kernel))) rfl
theorem kw_125 : (Jvm.Cond.fieldLinkNest "TrimmedMachine" (75 : Nat) "TrimmedMachine$Run" "space" "I" "TrimmedMachine") ∈ tm_nw := tm_nin (List.mem_append_left _ (List.mem_of_getElem? (i := 125) (by decide +kernel))) rfl
theorem kw_127 : (Jvm.Cond.fieldLinkNest "TrimmedMachine" (78 : Nat) "TrimmedMachine$Run" "peak" "I" "TrimmedMachine") ∈ tm_nw := tm_nin (List.mem_append_left _ (List.mem_of_getElem? (i := 127) (by decide +kernel))) rfl
theorem kw_173 : (Jvm.Cond.instanceMethod ({ cls := "TrimmedMachine", name := "about", desc := "(I)I" } : Jvm.MethodName)) ∈ tm_wa := tm_tb (List.mem_append_left _ (List.mem_of_getElem? (i := 173) (by decide +kernel))) rfl
theorem kw_174 : (Jvm.Cond.selects "TrimmedMachine" ({ cls := "TrimmedMachine", name := "about", desc := "(I)I" } : Jvm.MethodName) ({ cls := "TrimmedMachine", name := "about", desc := "(I)I" } : Jvm.MethodName)) ∈ tm_wa := tm_tb (List.mem_append_left _ (List.mem_of_getElem? (i := 174) (by decide +kernel))) rfl
theorem kw_175 : (Jvm.Cond.code ({ cls := "TrimmedMachine", name := "about", desc := "(I)I" } : Jvm.MethodName) prog_1_method_11_code (3 : Nat) (Option.some Jvm.ClassFile.FieldType.int)) ∈ tm_wa := tm_tb (List.mem_append_left _ (List.mem_of_getElem? (i := 175) (rfl))) rfl
theorem kw_338 : (Jvm.Cond.instanceMethod ({ cls := "TrimmedMachine", name := "begin", desc := "(II)V" } : Jvm.MethodName)) ∈ tm_wa := tm_tb (List.mem_append_right _ (List.mem_append_left _ (List.mem_of_getElem? (i := 98) (by decide +kernel)))) rfl
theorem kw_339 : (Jvm.Cond.selects "TrimmedMachine" ({ cls := "TrimmedMachine", name := "begin", desc := "(II)V" } : Jvm.MethodName) ({ cls := "TrimmedMachine", name := "begin", desc := "(II)V" } : Jvm.MethodName)) ∈ tm_wa := tm_tb (List.mem_append_right _ (List.mem_append_left _ (List.mem_of_getElem? (i := 99) (by decide +kernel)))) rfl
theorem kw_340 : (Jvm.Cond.code ({ cls := "TrimmedMachine", name := "begin", desc := "(II)V" } : Jvm.MethodName) prog_1_method_9_code (3 : Nat) (Option.none : Option Jvm.ClassFile.FieldType)) ∈ tm_wa := tm_tb (List.mem_append_right _ (List.mem_append_left _ (List.mem_of_getElem? (i := 100) (rfl)))) rfl
theorem kw_342 : (Jvm.Cond.methodLinkNest "TrimmedMachine" (59 : Nat) ({ cls := "TrimmedMachine$Run", name := "start", desc := "(II)V" } : Jvm.MethodName) "TrimmedMachine") ∈ tm_nw := tm_nin (List.mem_append_right _ (List.mem_append_left _ (List.mem_of_getElem? (i := 102) (by decide +kernel)))) rfl
theorem kw_413 : (Jvm.Cond.instanceMethod ({ cls := "TrimmedMachine$Run", name := "step", desc := "()V" } : Jvm.MethodName)) ∈ tm_wa := tm_tb (List.mem_append_right _ (List.mem_append_left _ (List.mem_of_getElem? (i := 173) (by decide +kernel)))) rfl
theorem kw_414 : (Jvm.Cond.code ({ cls := "TrimmedMachine$Run", name := "step", desc := "()V" } : Jvm.MethodName) prog_5_method_3_code (1 : Nat) (Option.none : Option Jvm.ClassFile.FieldType)) ∈ tm_wa := tm_tb (List.mem_append_right _ (List.mem_append_left _ (List.mem_of_getElem? (i := 174) (rfl)))) rfl
theorem kw_415 : (Jvm.Cond.methodLink "TrimmedMachine$Run" (67 : Nat) ({ cls := "TrimmedMachine$Run", name := "evaluate", desc := "()V" } : Jvm.MethodName)) ∈ tm_wa := tm_tb (List.mem_append_right _ (List.mem_append_left _ (List.mem_of_getElem? (i := 175) (by decide +kernel)))) rfl
theorem kw_482 : (Jvm.Cond.methodLink "TrimmedMachine$Run" (70 : Nat) ({ cls := "TrimmedMachine$Run", name := "returnToFrame", desc := "()V" } : Jvm.MethodName)) ∈ tm_wa := tm_tb (List.mem_append_right _ (List.mem_append_right _ (List.mem_append_left _ (List.mem_of_getElem? (i := 2) (by decide +kernel))))) rfl
theorem kw_537 : (Jvm.Cond.methodLink "TrimmedMachine$Run" (73 : Nat) ({ cls := "TrimmedMachine$Run", name := "end", desc := "()V" } : Jvm.MethodName)) ∈ tm_wa := tm_tb (List.mem_append_right _ (List.mem_append_right _ (List.mem_append_left _ (List.mem_of_getElem? (i := 57) (by decide +kernel))))) rfl
theorem kw_541 : (Jvm.Cond.methodLink "TrimmedMachine$Run" (76 : Nat) ({ cls := "TrimmedMachine$Run", name := "refuseTooMuchSpace", desc := "()V" } : Jvm.MethodName)) ∈ tm_wa := tm_tb (List.mem_append_right _ (List.mem_append_right _ (List.mem_append_left _ (List.mem_of_getElem? (i := 61) (by decide +kernel))))) rfl
theorem kw_546 : (Jvm.Cond.methodLink "TrimmedMachine$Run" (82 : Nat) ({ cls := "java/lang/Math", name := "max", desc := "(II)I" } : Jvm.MethodName)) ∈ tm_wa := tm_tb (List.mem_append_right _ (List.mem_append_right _ (List.mem_append_left _ (List.mem_of_getElem? (i := 66) (by decide +kernel))))) rfl
abbrev y_RN_step : MethodName := { cls := "TrimmedMachine$Run", name := "step", desc := "()V" }
abbrev b_RN_step : ByteArray := prog_5_method_3_code
theorem ki_RN_step : tm_ki y_RN_step b_RN_step 1 none 0 := ⟨⟨kw_3, kw_414, by decide, by decide, by decide +kernel⟩, kw_413, tm_sel (n := 15) (List.mem_append_left _ (List.mem_of_getElem? (i := 15) rfl))⟩
abbrev y_TM_begin : MethodName := { cls := "TrimmedMachine", name := "begin", desc := "(II)V" }
abbrev b_TM_begin : ByteArray := prog_1_method_9_code
theorem ki_TM_begin : tm_ki y_TM_begin b_TM_begin 3 none 2 := ⟨⟨kw_1, kw_340, by decide, by decide, by decide +kernel⟩, kw_338, kw_339⟩
abbrev y_TM_about : MethodName := { cls := "TrimmedMachine", name := "about", desc := "(I)I" }
abbrev b_TM_about : ByteArray := prog_1_method_11_code
theorem ki_TM_about : tm_ki y_TM_about b_TM_about 3 (some .int) 1 := ⟨⟨kw_1, kw_175, by decide, by decide, by decide +kernel⟩, kw_173, kw_174⟩
theorem d_RN_step_0 : decode b_RN_step 0 = .ok (.aload_n 0, 1) := by decide +kernel
theorem d_RN_step_1 : decode b_RN_step 1 = .ok (.getfield 63, 3) := by decide +kernel
theorem d_RN_step_4 : decode b_RN_step 4 = .ok (.ifCond .eq 10, 3) := by decide +kernel
theorem d_RN_step_7 : decode b_RN_step 7 = .ok (.aload_n 0, 1) := by decide +kernel
theorem d_RN_step_8 : decode b_RN_step 8 = .ok (.invokevirtual 67, 3) := by decide +kernel
theorem d_RN_step_11 : decode b_RN_step 11 = .ok (.goto 21, 3) := by decide +kernel
theorem d_RN_step_32 : decode b_RN_step 32 = .ok (.aload_n 0, 1) := by decide +kernel
theorem d_RN_step_33 : decode b_RN_step 33 = .ok (.getfield 32, 3) := by decide +kernel
theorem d_RN_step_36 : decode b_RN_step 36 = .ok (.iconst 1, 1) := by decide +kernel
theorem d_RN_step_37 : decode b_RN_step 37 = .ok (.if_icmp .ne 26, 3) := by decide +kernel
theorem d_RN_step_40 : decode b_RN_step 40 = .ok (.aload_n 0, 1) := by decide +kernel
theorem d_RN_step_41 : decode b_RN_step 41 = .ok (.invokevirtual 60, 3) := by decide +kernel
theorem d_RN_step_44 : decode b_RN_step 44 = .ok (.aload_n 0, 1) := by decide +kernel
theorem d_RN_step_45 : decode b_RN_step 45 = .ok (.invokevirtual 76, 3) := by decide +kernel
theorem d_RN_step_48 : decode b_RN_step 48 = .ok (.aload_n 0, 1) := by decide +kernel
theorem d_RN_step_49 : decode b_RN_step 49 = .ok (.aload_n 0, 1) := by decide +kernel
theorem d_RN_step_50 : decode b_RN_step 50 = .ok (.getfield 49, 3) := by decide +kernel
theorem d_RN_step_53 : decode b_RN_step 53 = .ok (.aload_n 0, 1) := by decide +kernel
theorem d_RN_step_54 : decode b_RN_step 54 = .ok (.getfield 79, 3) := by decide +kernel
theorem d_RN_step_57 : decode b_RN_step 57 = .ok (.invokestatic 82, 3) := by decide +kernel
theorem d_RN_step_60 : decode b_RN_step 60 = .ok (.putfield 49, 3) := by decide +kernel
theorem d_RN_step_63 : decode b_RN_step 63 = .ok (.aload_n 0, 1) := by decide +kernel
theorem d_RN_step_64 : decode b_RN_step 64 = .ok (.dup, 1) := by decide +kernel
theorem d_RN_step_65 : decode b_RN_step 65 = .ok (.getfield 43, 3) := by decide +kernel
theorem d_RN_step_68 : decode b_RN_step 68 = .ok (.iconst 1, 1) := by decide +kernel
theorem d_RN_step_69 : decode b_RN_step 69 = .ok (.iadd, 1) := by decide +kernel
theorem d_RN_step_70 : decode b_RN_step 70 = .ok (.putfield 43, 3) := by decide +kernel
theorem d_RN_step_73 : decode b_RN_step 73 = .ok (.return_, 1) := by decide +kernel
set_option maxHeartbeats 4000000 in
set_option maxRecDepth 100000 in
theorem c_RN_step_ev (l : Launch) (D : va_G) (cI cL cZ : ClassId) (ad : Nat → Nat) (hst : l.stackTraces = false) (e : Nat) (F : Nat) (u : tm_SC) (h6 : ¬ u.1 6 = 0) (hI : cs_EI u e F) (hM : ∀ w, (fun w => cs_evP u e F w) w → w.1 1 = 1 → ∃ F2 L2 M2, cs_MI w F2 L2 M2) : tx_V l y_RN_step b_RN_step 1 ({ frames := 11, cells := 1, slots := 6, locals := 260 } : Room) D (tm_yC cI cL cZ) (tm_wC ad cI cL cZ) [.ref (ad 8)] u (fun u' => cs_stP ((fun w => cs_evP u e F w)) u') (fun E u' => cs_stX ((fun w => cs_evP u e F w)) ((fun E w => cs_evX u e F E w)) E u') := by
  intro sz
  refine tx_of (Qc := fun A => va_Qv (fun u' => cs_stP ((fun w => cs_evP u e F w)) u') (fun u' t => tm_B D (tm_yC cI cL cZ) A (tm_wC ad cI cL cZ u') t) A) (XC := fun A => tx_X D (tm_yC cI cL cZ) (tm_wC ad cI cL cZ) A (fun E u' => cs_stX ((fun w => cs_evP u e F w)) ((fun E w => cs_evX u e F E w)) E u')) (by decide) (Nat.le_of_ble_eq_true rfl) ?_ sz
  intro pg eg sg mg bel met cg A ls X h hl hE htab
  have hx := X.1.1
  have hb := X.1.2.1
  have hl : lv_has ls 1 [(0, .ref (ad 8))] := hl
  refine lv_aload_n hx hb d_RN_step_0 rfl (lv_at hl 0 rfl) ?_
  refine tm_get X h uw_RN 8 rfl rfl 11 (by decide) kw_128 rfl rfl d_RN_step_1 ?_
  refine lv_if_eq hx hb d_RN_step_4 (tgt := 14) rfl (fun q => absurd q (h6)) (fun _ => ?_)
  refine lv_aload_n hx hb d_RN_step_7 rfl (lv_at hl 0 rfl) ?_
  refine tx_cV X h (tx_rV (q0 := 8) X h hE (c_RN_evaluate l D cI cL cZ ad hst (e) (F) u (hI) _) ki_RN_evaluate kw_415 rfl rfl rfl rfl rfl ⟨by decide, by decide⟩ rfl hl.1 rfl (Nat.le_of_ble_eq_true rfl) d_RN_step_8 ⟨by decide, by decide⟩) (fun E9 u9 q9 ce9 H locs hx9 h e91 e92 e93 => tx_out (w := tm_wC ad cI cL cZ) (u := u9) X htab h e91 e92 e93 (Or.inl hx9)) (fun u8 H locs hp8 h => ?_)
  refine lv_goto hx hb d_RN_step_11 (tgt := 32) rfl ?_
  refine lv_aload_n hx hb d_RN_step_32 rfl (lv_at hl 0 rfl) ?_
  refine tm_get X h uw_RN 8 rfl rfl 6 (by decide) kw_119 rfl rfl d_RN_step_33 ?_
  refine lv_iconst (v := 1) hx hb d_RN_step_36 (by decide) ?_
  refine lv_icmp_ne hx hb d_RN_step_37 (tgt := 63) rfl (fun h37t => ?_) (fun h37f => ?_)
  · refine lv_aload_n hx hb d_RN_step_63 rfl (lv_at hl 0 rfl) ?_
    refine lv_dup hx hb d_RN_step_64 rfl ?_
    refine tm_get X h uw_RN 8 rfl rfl 8 (by decide) kw_122 rfl rfl d_RN_step_65 ?_
    refine lv_iconst (v := 1) hx hb d_RN_step_68 (by decide) ?_
    refine lv_iadd hx hb d_RN_step_69 ?_
    refine tm_put X h uw_RN t_RN t_RN_ok n_RN 8 rfl rfl 8 (by decide) kw_122 rfl rfl (rfl) (rfl) (Nat.le_of_ble_eq_true rfl) (ws' := tm_wC ad cI cL cZ (tm_sf u8 3 ((((u8).1 3) + 1)))) rfl d_RN_step_70 (fun H locs h => ?_)
    exact tx_vret (w := tm_wC ad cI cL cZ) (u := (tm_sf u8 3 ((((u8).1 3) + 1)))) X h (⟨u8, hp8, Or.inl ⟨h37t, rfl⟩⟩) d_RN_step_73
  · obtain ⟨F2, L2, M2, hMI⟩ := hM u8 hp8 h37f
    refine lv_aload_n hx hb d_RN_step_40 rfl (lv_at hl 0 rfl) ?_
    refine tm_cV X h (tm_rV (q0 := 8) X h (c_RN_measure l D cI cL cZ ad (F2) (L2) (M2) u8 (hMI.1) (hMI.2.1) (hMI.2.2.1) (hMI.2.2.2.1) (hMI.2.2.2.2) _) ki_RN_measure kw_358 rfl rfl rfl rfl rfl ⟨by decide, by decide⟩ rfl hl.1 rfl (Nat.le_of_ble_eq_true rfl) d_RN_step_41 ⟨by decide, by decide⟩) (fun u41 H locs hp41 h => ?_)
    refine lv_aload_n hx hb d_RN_step_44 rfl (lv_at hl 0 rfl) ?_
    refine tx_cVf X h (tx_rV (q0 := 8) X h hE (c_RN_refuseTooMuchSpace l D cI cL cZ ad hst  u41  _) ki_RN_refuseTooMuchSpace kw_541 rfl rfl rfl rfl rfl ⟨by decide, by decide⟩ rfl hl.1 rfl (Nat.le_of_ble_eq_true rfl) d_RN_step_45 ⟨by decide, by decide⟩) (fun E9 u9 q9 ce9 H locs hx9 h e91 e92 e93 => tx_out (w := tm_wC ad cI cL cZ) (u := u9) X htab h e91 e92 e93 (Or.inr ⟨u8, hp8, h37f, F2, L2, u41, ⟨hMI.1, hMI.2.1⟩, hp41, hx9.1, hx9.2.2, hx9.2.1⟩)) (fun H locs f45 h => ?_)
    refine lv_aload_n hx hb d_RN_step_48 rfl (lv_at hl 0 rfl) ?_
    refine lv_aload_n hx hb d_RN_step_49 rfl (lv_at hl 0 rfl) ?_
    refine tm_get X h uw_RN 8 rfl rfl 10 (by decide) kw_126 rfl rfl d_RN_step_50 ?_
    refine lv_aload_n hx hb d_RN_step_53 rfl (lv_at hl 0 rfl) ?_
    refine tm_get X h uw_RN 8 rfl rfl 9 (by decide) kw_124 rfl rfl d_RN_step_54 ?_
    refine tm_max X kw_546 kw_310 kw_12 kw_311 hl.1 (by decide) (Nat.le_of_ble_eq_true rfl) (by decide) (by decide) d_RN_step_57 ?_
    refine tm_put X h uw_RN t_RN t_RN_ok n_RN 8 rfl rfl 10 (by decide) kw_126 rfl rfl (rfl) (rfl) (Nat.le_of_ble_eq_true rfl) (ws' := tm_wC ad cI cL cZ (tm_sf u41 5 ((if ((u41).1 5) < ((u41).1 4) then ((u41).1 4) else ((u41).1 5))))) rfl d_RN_step_60 (fun H locs h => ?_)
    refine lv_aload_n hx hb d_RN_step_63 rfl (lv_at hl 0 rfl) ?_
    refine lv_dup hx hb d_RN_step_64 rfl ?_
    refine tm_get X h uw_RN 8 rfl rfl 8 (by decide) kw_122 rfl rfl d_RN_step_65 ?_
    refine lv_iconst (v := 1) hx hb d_RN_step_68 (by decide) ?_
    refine lv_iadd hx hb d_RN_step_69 ?_
    refine tm_put X h uw_RN t_RN t_RN_ok n_RN 8 rfl rfl 8 (by decide) kw_122 rfl rfl (rfl) (rfl) (Nat.le_of_ble_eq_true rfl) (ws' := tm_wC ad cI cL cZ (tm_sf (tm_sf u41 5 ((if ((u41).1 5) < ((u41).1 4) then ((u41).1 4) else ((u41).1 5)))) 3 (((((tm_sf u41 5 ((if ((u41).1 5) < ((u41).1 4) then ((u41).1 4) else ((u41).1 5))))).1 3) + 1)))) rfl d_RN_step_70 (fun H locs h => ?_)
    exact tx_vret (w := tm_wC ad cI cL cZ) (u := (tm_sf (tm_sf u41 5 ((if ((u41).1 5) < ((u41).1 4) then ((u41).1 4) else ((u41).1 5)))) 3 (((((tm_sf u41 5 ((if ((u41).1 5) < ((u41).1 4) then ((u41).1 4) else ((u41).1 5))))).1 3) + 1)))) X h (⟨u8, hp8, Or.inr ⟨h37f, F2, L2, u41, ⟨hMI.1, hMI.2.1⟩, hp41, f45, rfl⟩⟩) d_RN_step_73
theorem d_RN_step_14 : decode b_RN_step 14 = .ok (.aload_n 0, 1) := by decide +kernel
theorem d_RN_step_15 : decode b_RN_step 15 = .ok (.getfield 46, 3) := by decide +kernel
theorem d_RN_step_18 : decode b_RN_step 18 = .ok (.ifCond .le 10, 3) := by decide +kernel
theorem d_RN_step_21 : decode b_RN_step 21 = .ok (.aload_n 0, 1) := by decide +kernel
theorem d_RN_step_22 : decode b_RN_step 22 = .ok (.invokevirtual 70, 3) := by decide +kernel
theorem d_RN_step_25 : decode b_RN_step 25 = .ok (.goto 7, 3) := by decide +kernel
set_option maxHeartbeats 4000000 in
set_option maxRecDepth 100000 in
theorem c_RN_step_bk (l : Launch) (D : va_G) (cI cL cZ : ClassId) (ad : Nat → Nat) (hst : l.stackTraces = false) (f : Nat) (e : Nat) (c : Nat) (g : Nat) (v : Nat) (b : Nat) (u : tm_SC) (h6 : u.1 6 = 0) (hB : cs_BI u f e c g v b) (hM : ∀ w, (fun w => cs_bkP u f e c g v b w) w → w.1 1 = 1 → ∃ F2 L2 M2, cs_MI w F2 L2 M2) : tx_V l y_RN_step b_RN_step 1 ({ frames := 11, cells := 1, slots := 6, locals := 260 } : Room) D (tm_yC cI cL cZ) (tm_wC ad cI cL cZ) [.ref (ad 8)] u (fun u' => cs_stP ((fun w => cs_bkP u f e c g v b w)) u') (fun E u' => cs_stX ((fun w => cs_bkP u f e c g v b w)) ((fun E w => cs_bkX u f E w)) E u') := by
  intro sz
  refine tx_of (Qc := fun A => va_Qv (fun u' => cs_stP ((fun w => cs_bkP u f e c g v b w)) u') (fun u' t => tm_B D (tm_yC cI cL cZ) A (tm_wC ad cI cL cZ u') t) A) (XC := fun A => tx_X D (tm_yC cI cL cZ) (tm_wC ad cI cL cZ) A (fun E u' => cs_stX ((fun w => cs_bkP u f e c g v b w)) ((fun E w => cs_bkX u f E w)) E u')) (by decide) (Nat.le_of_ble_eq_true rfl) ?_ sz
  intro pg eg sg mg bel met cg A ls X h hl hE htab
  have hx := X.1.1
  have hb := X.1.2.1
  have hl : lv_has ls 1 [(0, .ref (ad 8))] := hl
  refine lv_aload_n hx hb d_RN_step_0 rfl (lv_at hl 0 rfl) ?_
  refine tm_get X h uw_RN 8 rfl rfl 11 (by decide) kw_128 rfl rfl d_RN_step_1 ?_
  refine lv_if_eq hx hb d_RN_step_4 (tgt := 14) rfl (fun _ => ?_) (fun q => absurd (h6) q)
  refine lv_aload_n hx hb d_RN_step_14 rfl (lv_at hl 0 rfl) ?_
  refine tm_get X h uw_RN 8 rfl rfl 5 (by decide) kw_117 rfl rfl d_RN_step_15 ?_
  refine lv_if_le hx hb d_RN_step_18 (tgt := 28) rfl (fun q => absurd q ((by rw [hB.1]; exact nI_nle (by omega) (by have := hB.2.1; omega)))) (fun _ => ?_)
  refine lv_aload_n hx hb d_RN_step_21 rfl (lv_at hl 0 rfl) ?_
  refine tx_cV X h (tx_rV (q0 := 8) X h hE (c_RN_returnToFrame l D cI cL cZ ad hst (f) (e) (c) (g) (v) (b) u (hB) _) ki_RN_returnToFrame kw_482 rfl rfl rfl rfl rfl ⟨by decide, by decide⟩ rfl hl.1 rfl (Nat.le_of_ble_eq_true rfl) d_RN_step_22 ⟨by decide, by decide⟩) (fun E9 u9 q9 ce9 H locs hx9 h e91 e92 e93 => tx_out (w := tm_wC ad cI cL cZ) (u := u9) X htab h e91 e92 e93 (Or.inl hx9)) (fun u22 H locs hp22 h => ?_)
  refine lv_goto hx hb d_RN_step_25 (tgt := 32) rfl ?_
  refine lv_aload_n hx hb d_RN_step_32 rfl (lv_at hl 0 rfl) ?_
  refine tm_get X h uw_RN 8 rfl rfl 6 (by decide) kw_119 rfl rfl d_RN_step_33 ?_
  refine lv_iconst (v := 1) hx hb d_RN_step_36 (by decide) ?_
  refine lv_icmp_ne hx hb d_RN_step_37 (tgt := 63) rfl (fun h37t => ?_) (fun h37f => ?_)
  · refine lv_aload_n hx hb d_RN_step_63 rfl (lv_at hl 0 rfl) ?_
    refine lv_dup hx hb d_RN_step_64 rfl ?_
    refine tm_get X h uw_RN 8 rfl rfl 8 (by decide) kw_122 rfl rfl d_RN_step_65 ?_
    refine lv_iconst (v := 1) hx hb d_RN_step_68 (by decide) ?_
    refine lv_iadd hx hb d_RN_step_69 ?_
    refine tm_put X h uw_RN t_RN t_RN_ok n_RN 8 rfl rfl 8 (by decide) kw_122 rfl rfl (rfl) (rfl) (Nat.le_of_ble_eq_true rfl) (ws' := tm_wC ad cI cL cZ (tm_sf u22 3 ((((u22).1 3) + 1)))) rfl d_RN_step_70 (fun H locs h => ?_)
    exact tx_vret (w := tm_wC ad cI cL cZ) (u := (tm_sf u22 3 ((((u22).1 3) + 1)))) X h (⟨u22, hp22, Or.inl ⟨h37t, rfl⟩⟩) d_RN_step_73
  · obtain ⟨F2, L2, M2, hMI⟩ := hM u22 hp22 h37f
    refine lv_aload_n hx hb d_RN_step_40 rfl (lv_at hl 0 rfl) ?_
    refine tm_cV X h (tm_rV (q0 := 8) X h (c_RN_measure l D cI cL cZ ad (F2) (L2) (M2) u22 (hMI.1) (hMI.2.1) (hMI.2.2.1) (hMI.2.2.2.1) (hMI.2.2.2.2) _) ki_RN_measure kw_358 rfl rfl rfl rfl rfl ⟨by decide, by decide⟩ rfl hl.1 rfl (Nat.le_of_ble_eq_true rfl) d_RN_step_41 ⟨by decide, by decide⟩) (fun u41 H locs hp41 h => ?_)
    refine lv_aload_n hx hb d_RN_step_44 rfl (lv_at hl 0 rfl) ?_
    refine tx_cVf X h (tx_rV (q0 := 8) X h hE (c_RN_refuseTooMuchSpace l D cI cL cZ ad hst  u41  _) ki_RN_refuseTooMuchSpace kw_541 rfl rfl rfl rfl rfl ⟨by decide, by decide⟩ rfl hl.1 rfl (Nat.le_of_ble_eq_true rfl) d_RN_step_45 ⟨by decide, by decide⟩) (fun E9 u9 q9 ce9 H locs hx9 h e91 e92 e93 => tx_out (w := tm_wC ad cI cL cZ) (u := u9) X htab h e91 e92 e93 (Or.inr ⟨u22, hp22, h37f, F2, L2, u41, ⟨hMI.1, hMI.2.1⟩, hp41, hx9.1, hx9.2.2, hx9.2.1⟩)) (fun H locs f45 h => ?_)
    refine lv_aload_n hx hb d_RN_step_48 rfl (lv_at hl 0 rfl) ?_
    refine lv_aload_n hx hb d_RN_step_49 rfl (lv_at hl 0 rfl) ?_
    refine tm_get X h uw_RN 8 rfl rfl 10 (by decide) kw_126 rfl rfl d_RN_step_50 ?_
    refine lv_aload_n hx hb d_RN_step_53 rfl (lv_at hl 0 rfl) ?_
    refine tm_get X h uw_RN 8 rfl rfl 9 (by decide) kw_124 rfl rfl d_RN_step_54 ?_
    refine tm_max X kw_546 kw_310 kw_12 kw_311 hl.1 (by decide) (Nat.le_of_ble_eq_true rfl) (by decide) (by decide) d_RN_step_57 ?_
    refine tm_put X h uw_RN t_RN t_RN_ok n_RN 8 rfl rfl 10 (by decide) kw_126 rfl rfl (rfl) (rfl) (Nat.le_of_ble_eq_true rfl) (ws' := tm_wC ad cI cL cZ (tm_sf u41 5 ((if ((u41).1 5) < ((u41).1 4) then ((u41).1 4) else ((u41).1 5))))) rfl d_RN_step_60 (fun H locs h => ?_)
    refine lv_aload_n hx hb d_RN_step_63 rfl (lv_at hl 0 rfl) ?_
    refine lv_dup hx hb d_RN_step_64 rfl ?_
    refine tm_get X h uw_RN 8 rfl rfl 8 (by decide) kw_122 rfl rfl d_RN_step_65 ?_
    refine lv_iconst (v := 1) hx hb d_RN_step_68 (by decide) ?_
    refine lv_iadd hx hb d_RN_step_69 ?_
    refine tm_put X h uw_RN t_RN t_RN_ok n_RN 8 rfl rfl 8 (by decide) kw_122 rfl rfl (rfl) (rfl) (Nat.le_of_ble_eq_true rfl) (ws' := tm_wC ad cI cL cZ (tm_sf (tm_sf u41 5 ((if ((u41).1 5) < ((u41).1 4) then ((u41).1 4) else ((u41).1 5)))) 3 (((((tm_sf u41 5 ((if ((u41).1 5) < ((u41).1 4) then ((u41).1 4) else ((u41).1 5))))).1 3) + 1)))) rfl d_RN_step_70 (fun H locs h => ?_)
    exact tx_vret (w := tm_wC ad cI cL cZ) (u := (tm_sf (tm_sf u41 5 ((if ((u41).1 5) < ((u41).1 4) then ((u41).1 4) else ((u41).1 5)))) 3 (((((tm_sf u41 5 ((if ((u41).1 5) < ((u41).1 4) then ((u41).1 4) else ((u41).1 5))))).1 3) + 1)))) X h (⟨u22, hp22, Or.inr ⟨h37f, F2, L2, u41, ⟨hMI.1, hMI.2.1⟩, hp41, f45, rfl⟩⟩) d_RN_step_73
theorem d_RN_step_28 : decode b_RN_step 28 = .ok (.aload_n 0, 1) := by decide +kernel
theorem d_RN_step_29 : decode b_RN_step 29 = .ok (.invokevirtual 73, 3) := by decide +kernel
set_option maxHeartbeats 4000000 in
set_option maxRecDepth 100000 in
theorem c_RN_step_0 (l : Launch) (D : va_G) (cI cL cZ : ClassId) (ad : Nat → Nat) (hst : l.stackTraces = false)  (u : tm_SC) (h6 : u.1 6 = 0) (h0 : u.1 0 = 0) (hs : ¬ u.2.2 (0 * 8 + 0) < 4294967296 → vp_in ((u.2.2 (0 * 8 + 0) - 4294967296).toInt32) 120) (hM : ∀ w, (fun w => w = cs_end u) w → w.1 1 = 1 → ∃ F2 L2 M2, cs_MI w F2 L2 M2) : tx_V l y_RN_step b_RN_step 1 ({ frames := 11, cells := 1, slots := 6, locals := 260 } : Room) D (tm_yC cI cL cZ) (tm_wC ad cI cL cZ) [.ref (ad 8)] u (fun u' => cs_stP ((fun w => w = cs_end u)) u') (fun E u' => cs_stX ((fun w => w = cs_end u)) ((fun _ _ => False)) E u') := by
  intro sz
  refine tx_of (Qc := fun A => va_Qv (fun u' => cs_stP ((fun w => w = cs_end u)) u') (fun u' t => tm_B D (tm_yC cI cL cZ) A (tm_wC ad cI cL cZ u') t) A) (XC := fun A => tx_X D (tm_yC cI cL cZ) (tm_wC ad cI cL cZ) A (fun E u' => cs_stX ((fun w => w = cs_end u)) ((fun _ _ => False)) E u')) (by decide) (Nat.le_of_ble_eq_true rfl) ?_ sz
  intro pg eg sg mg bel met cg A ls X h hl hE htab
  have hx := X.1.1
  have hb := X.1.2.1
  have hl : lv_has ls 1 [(0, .ref (ad 8))] := hl
  refine lv_aload_n hx hb d_RN_step_0 rfl (lv_at hl 0 rfl) ?_
  refine tm_get X h uw_RN 8 rfl rfl 11 (by decide) kw_128 rfl rfl d_RN_step_1 ?_
  refine lv_if_eq hx hb d_RN_step_4 (tgt := 14) rfl (fun _ => ?_) (fun q => absurd (h6) q)
  refine lv_aload_n hx hb d_RN_step_14 rfl (lv_at hl 0 rfl) ?_
  refine tm_get X h uw_RN 8 rfl rfl 5 (by decide) kw_117 rfl rfl d_RN_step_15 ?_
  refine lv_if_le hx hb d_RN_step_18 (tgt := 28) rfl (fun _ => ?_) (fun q => absurd ((by rw [h0]; decide)) q)
  refine lv_aload_n hx hb d_RN_step_28 rfl (lv_at hl 0 rfl) ?_
  refine tm_cVf X h (tm_rV (q0 := 8) X h (c_RN_end l D cI cL cZ ad  u (hs) _) ki_RN_end kw_537 rfl rfl rfl rfl rfl ⟨by decide, by decide⟩ rfl hl.1 rfl (Nat.le_of_ble_eq_true rfl) d_RN_step_29 ⟨by decide, by decide⟩) (fun H locs h => ?_)
  refine lv_aload_n hx hb d_RN_step_32 rfl (lv_at hl 0 rfl) ?_
  refine tm_get X h uw_RN 8 rfl rfl 6 (by decide) kw_119 rfl rfl d_RN_step_33 ?_
  refine lv_iconst (v := 1) hx hb d_RN_step_36 (by decide) ?_
  refine lv_icmp_ne hx hb d_RN_step_37 (tgt := 63) rfl (fun h37t => ?_) (fun h37f => ?_)
  · refine lv_aload_n hx hb d_RN_step_63 rfl (lv_at hl 0 rfl) ?_
    refine lv_dup hx hb d_RN_step_64 rfl ?_
    refine tm_get X h uw_RN 8 rfl rfl 8 (by decide) kw_122 rfl rfl d_RN_step_65 ?_
    refine lv_iconst (v := 1) hx hb d_RN_step_68 (by decide) ?_
    refine lv_iadd hx hb d_RN_step_69 ?_
    refine tm_put X h uw_RN t_RN t_RN_ok n_RN 8 rfl rfl 8 (by decide) kw_122 rfl rfl (rfl) (rfl) (Nat.le_of_ble_eq_true rfl) (ws' := tm_wC ad cI cL cZ (tm_sf (cs_end u) 3 (((((cs_end u)).1 3) + 1)))) rfl d_RN_step_70 (fun H locs h => ?_)
    exact tx_vret (w := tm_wC ad cI cL cZ) (u := (tm_sf (cs_end u) 3 (((((cs_end u)).1 3) + 1)))) X h (⟨(cs_end u), rfl, Or.inl ⟨h37t, rfl⟩⟩) d_RN_step_73
  · obtain ⟨F2, L2, M2, hMI⟩ := hM (cs_end u) rfl h37f
    refine lv_aload_n hx hb d_RN_step_40 rfl (lv_at hl 0 rfl) ?_
    refine tm_cV X h (tm_rV (q0 := 8) X h (c_RN_measure l D cI cL cZ ad (F2) (L2) (M2) (cs_end u) (hMI.1) (hMI.2.1) (hMI.2.2.1) (hMI.2.2.2.1) (hMI.2.2.2.2) _) ki_RN_measure kw_358 rfl rfl rfl rfl rfl ⟨by decide, by decide⟩ rfl hl.1 rfl (Nat.le_of_ble_eq_true rfl) d_RN_step_41 ⟨by decide, by decide⟩) (fun u41 H locs hp41 h => ?_)
    refine lv_aload_n hx hb d_RN_step_44 rfl (lv_at hl 0 rfl) ?_
    refine tx_cVf X h (tx_rV (q0 := 8) X h hE (c_RN_refuseTooMuchSpace l D cI cL cZ ad hst  u41  _) ki_RN_refuseTooMuchSpace kw_541 rfl rfl rfl rfl rfl ⟨by decide, by decide⟩ rfl hl.1 rfl (Nat.le_of_ble_eq_true rfl) d_RN_step_45 ⟨by decide, by decide⟩) (fun E9 u9 q9 ce9 H locs hx9 h e91 e92 e93 => tx_out (w := tm_wC ad cI cL cZ) (u := u9) X htab h e91 e92 e93 (Or.inr ⟨(cs_end u), rfl, h37f, F2, L2, u41, ⟨hMI.1, hMI.2.1⟩, hp41, hx9.1, hx9.2.2, hx9.2.1⟩)) (fun H locs f45 h => ?_)
    refine lv_aload_n hx hb d_RN_step_48 rfl (lv_at hl 0 rfl) ?_
    refine lv_aload_n hx hb d_RN_step_49 rfl (lv_at hl 0 rfl) ?_
    refine tm_get X h uw_RN 8 rfl rfl 10 (by decide) kw_126 rfl rfl d_RN_step_50 ?_
    refine lv_aload_n hx hb d_RN_step_53 rfl (lv_at hl 0 rfl) ?_
    refine tm_get X h uw_RN 8 rfl rfl 9 (by decide) kw_124 rfl rfl d_RN_step_54 ?_
    refine tm_max X kw_546 kw_310 kw_12 kw_311 hl.1 (by decide) (Nat.le_of_ble_eq_true rfl) (by decide) (by decide) d_RN_step_57 ?_
    refine tm_put X h uw_RN t_RN t_RN_ok n_RN 8 rfl rfl 10 (by decide) kw_126 rfl rfl (rfl) (rfl) (Nat.le_of_ble_eq_true rfl) (ws' := tm_wC ad cI cL cZ (tm_sf u41 5 ((if ((u41).1 5) < ((u41).1 4) then ((u41).1 4) else ((u41).1 5))))) rfl d_RN_step_60 (fun H locs h => ?_)
    refine lv_aload_n hx hb d_RN_step_63 rfl (lv_at hl 0 rfl) ?_
    refine lv_dup hx hb d_RN_step_64 rfl ?_
    refine tm_get X h uw_RN 8 rfl rfl 8 (by decide) kw_122 rfl rfl d_RN_step_65 ?_
    refine lv_iconst (v := 1) hx hb d_RN_step_68 (by decide) ?_
    refine lv_iadd hx hb d_RN_step_69 ?_
    refine tm_put X h uw_RN t_RN t_RN_ok n_RN 8 rfl rfl 8 (by decide) kw_122 rfl rfl (rfl) (rfl) (Nat.le_of_ble_eq_true rfl) (ws' := tm_wC ad cI cL cZ (tm_sf (tm_sf u41 5 ((if ((u41).1 5) < ((u41).1 4) then ((u41).1 4) else ((u41).1 5)))) 3 (((((tm_sf u41 5 ((if ((u41).1 5) < ((u41).1 4) then ((u41).1 4) else ((u41).1 5))))).1 3) + 1)))) rfl d_RN_step_70 (fun H locs h => ?_)
    exact tx_vret (w := tm_wC ad cI cL cZ) (u := (tm_sf (tm_sf u41 5 ((if ((u41).1 5) < ((u41).1 4) then ((u41).1 4) else ((u41).1 5)))) 3 (((((tm_sf u41 5 ((if ((u41).1 5) < ((u41).1 4) then ((u41).1 4) else ((u41).1 5))))).1 3) + 1)))) X h (⟨(cs_end u), rfl, Or.inr ⟨h37f, F2, L2, u41, ⟨hMI.1, hMI.2.1⟩, hp41, f45, rfl⟩⟩) d_RN_step_73
theorem d_TM_begin_0 : decode b_TM_begin 0 = .ok (.aload_n 0, 1) := by decide +kernel
theorem d_TM_begin_1 : decode b_TM_begin 1 = .ok (.iload_n 1, 1) := by decide +kernel
theorem d_TM_begin_2 : decode b_TM_begin 2 = .ok (.invokevirtual 54, 3) := by decide +kernel
theorem d_TM_begin_5 : decode b_TM_begin 5 = .ok (.iload_n 2, 1) := by decide +kernel
theorem d_TM_begin_6 : decode b_TM_begin 6 = .ok (.iconst 1, 1) := by decide +kernel
theorem d_TM_begin_7 : decode b_TM_begin 7 = .ok (.if_icmp .lt 9, 3) := by decide +kernel
theorem d_TM_begin_10 : decode b_TM_begin 10 = .ok (.iload_n 2, 1) := by decide +kernel
theorem d_TM_begin_11 : decode b_TM_begin 11 = .ok (.bipush 120, 2) := by decide +kernel
theorem d_TM_begin_13 : decode b_TM_begin 13 = .ok (.if_icmp .le 13, 3) := by decide +kernel
theorem d_TM_begin_16 : decode b_TM_begin 16 = .ok (.new 47, 3) := by decide +kernel
theorem d_TM_begin_19 : decode b_TM_begin 19 = .ok (.dup, 1) := by decide +kernel
theorem d_TM_begin_20 : decode b_TM_begin 20 = .ok (.ldc 57, 2) := by decide +kernel
theorem d_TM_begin_22 : decode b_TM_begin 22 = .ok (.invokespecial 51, 3) := by decide +kernel
theorem d_TM_begin_25 : decode b_TM_begin 25 = .ok (.athrow, 1) := by decide +kernel
theorem d_TM_begin_26 : decode b_TM_begin 26 = .ok (.aload_n 0, 1) := by decide +kernel
theorem d_TM_begin_27 : decode b_TM_begin 27 = .ok (.getfield 21, 3) := by decide +kernel
theorem d_TM_begin_30 : decode b_TM_begin 30 = .ok (.iload_n 1, 1) := by decide +kernel
theorem d_TM_begin_31 : decode b_TM_begin 31 = .ok (.iload_n 2, 1) := by decide +kernel
theorem d_TM_begin_32 : decode b_TM_begin 32 = .ok (.invokevirtual 59, 3) := by decide +kernel
theorem d_TM_begin_35 : decode b_TM_begin 35 = .ok (.return_, 1) := by decide +kernel
set_option maxHeartbeats 4000000 in
set_option maxRecDepth 100000 in
theorem c_TM_begin (l : Launch) (D : va_G) (cI cL cZ : ClassId) (ad : Nat → Nat) (hst : l.stackTraces = false) (n : Nat) (e : Int32) (x : Int32) (M : Nat → Prop) (u : tm_SC) (hn : u.1 11 = nI n) (hn2 : n ≤ 100) (hM : cs_LL u M) : tx_V l y_TM_begin b_TM_begin 3 ({ frames := 7, cells := 1, slots := 6, locals := 111 } : Room) D (tm_yC cI cL cZ) (tm_wC ad cI cL cZ) [.ref (ad 0), .int (e), .int (x)] u (fun u' => ¬ (cs_np u e ∨ x < 1 ∨ 120 < x) ∧ cs_MP (cs_beg u e.toNatClampNeg x) 0 (fun _ => False) u') (fun E u' => E = "java/lang/IllegalArgumentException" ∧ u' = u ∧ (cs_np u e ∨ x < 1 ∨ 120 < x)) := by
  intro sz
  refine tx_of (Qc := fun A => va_Qv (fun u' => ¬ (cs_np u e ∨ x < 1 ∨ 120 < x) ∧ cs_MP (cs_beg u e.toNatClampNeg x) 0 (fun _ => False) u') (fun u' t => tm_B D (tm_yC cI cL cZ) A (tm_wC ad cI cL cZ u') t) A) (XC := fun A => tx_X D (tm_yC cI cL cZ) (tm_wC ad cI cL cZ) A (fun E u' => E = "java/lang/IllegalArgumentException" ∧ u' = u ∧ (cs_np u e ∨ x < 1 ∨ 120 < x))) (by decide) (Nat.le_of_ble_eq_true rfl) ?_ sz
  intro pg eg sg mg bel met cg A ls X h hl hE htab
  have hx := X.1.1
  have hb := X.1.2.1
  have hl : lv_has ls 3 [(0, .ref (ad 0)), (1, .int (e)), (2, .int (x))] := hl
  refine lv_aload_n hx hb d_TM_begin_0 rfl (lv_at hl 0 rfl) ?_
  refine lv_iload_n hx hb d_TM_begin_1 rfl (lv_at hl 1 rfl) ?_
  refine tx_cVf X h (tx_rV (q0 := 0) X h hE (c_TM_requireExpression l D cI cL cZ ad hst (e) u  _) ki_TM_requireExpression kw_296 rfl rfl rfl rfl rfl ⟨by decide, by decide⟩ rfl hl.1 rfl (Nat.le_of_ble_eq_true rfl) d_TM_begin_2 ⟨by decide, by decide⟩) (fun E9 u9 q9 ce9 H locs hx9 h e91 e92 e93 => tx_out (w := tm_wC ad cI cL cZ) (u := u9) X htab h e91 e92 e93 (⟨hx9.1, hx9.2.1, Or.inl hx9.2.2⟩)) (fun H locs f2 h => ?_)
  refine lv_iload_n hx hb d_TM_begin_5 rfl (lv_at hl 2 rfl) ?_
  refine lv_iconst (v := 1) hx hb d_TM_begin_6 (by decide) ?_
  refine lv_icmp_lt hx hb d_TM_begin_7 (tgt := 16) rfl (fun h7t => ?_) (fun h7f => ?_)
  · exact tx_throw (w := tm_wC ad cI cL cZ) (u := u) (cls := "java/lang/IllegalArgumentException") (text := "no such capacity") X htab hE hst h (by decide) kw_269 kw_11 (List.mem_of_getElem? (i := 5) rfl) ta_TM_51 (by decide +kernel) hl.1 d_TM_begin_16 d_TM_begin_19 d_TM_begin_20 d_TM_begin_22 d_TM_begin_25 (by decide) (Nat.le_of_ble_eq_true rfl) (by decide) (by decide) (⟨rfl, rfl, Or.inr (Or.inl h7t)⟩)
  · refine lv_iload_n hx hb d_TM_begin_10 rfl (lv_at hl 2 rfl) ?_
    refine lv_bipush (v := 120) hx hb d_TM_begin_11 (by decide) ?_
    refine lv_icmp_le hx hb d_TM_begin_13 (tgt := 26) rfl (fun h13t => ?_) (fun h13f => ?_)
    · refine lv_aload_n hx hb d_TM_begin_26 rfl (lv_at hl 0 rfl) ?_
      refine tm_get X h uw_TM 0 rfl rfl 1 (by decide) kw_166 rfl rfl d_TM_begin_27 ?_
      refine lv_iload_n hx hb d_TM_begin_30 rfl (lv_at hl 1 rfl) ?_
      refine tm_top (y := nI e.toNatClampNeg) ((cs_pt1 f2 hn hn2).2) ?_
      refine lv_iload_n hx hb d_TM_begin_31 rfl (lv_at hl 2 rfl) ?_
      refine tm_cV X h (tm_rVN (q0 := 8) X h (c_RN_start l D cI cL cZ ad (e.toNatClampNeg) (x) (M) u ((cs_pt1 f2 hn hn2).1) (hM) _) ki_RN_start kw_342 rfl rfl rfl rfl rfl ⟨by decide, by decide⟩ rfl hl.1 rfl (Nat.le_of_ble_eq_true rfl) d_TM_begin_32 ⟨by decide, by decide⟩) (fun u32 H locs hp32 h => ?_)
      exact tx_vret (w := tm_wC ad cI cL cZ) (u := u32) X h (⟨fun q => q.elim f2 (fun q => q.elim h7f (Int32.not_lt.mpr h13t)), hp32⟩) d_TM_begin_35
    · exact tx_throw (w := tm_wC ad cI cL cZ) (u := u) (cls := "java/lang/IllegalArgumentException") (text := "no such capacity") X htab hE hst h (by decide) kw_269 kw_11 (List.mem_of_getElem? (i := 5) rfl) ta_TM_51 (by decide +kernel) hl.1 d_TM_begin_16 d_TM_begin_19 d_TM_begin_20 d_TM_begin_22 d_TM_begin_25 (by decide) (Nat.le_of_ble_eq_true rfl) (by decide) (by decide) (⟨rfl, rfl, Or.inr (Or.inr (Int32.not_le.mp h13f))⟩)
theorem d_TM_about_0 : decode b_TM_about 0 = .ok (.aload_n 0, 1) := by decide +kernel
theorem d_TM_about_1 : decode b_TM_about 1 = .ok (.getfield 21, 3) := by decide +kernel
theorem d_TM_about_4 : decode b_TM_about 4 = .ok (.getfield 65, 3) := by decide +kernel
theorem d_TM_about_7 : decode b_TM_about 7 = .ok (.iconst 1, 1) := by decide +kernel
theorem d_TM_about_8 : decode b_TM_about 8 = .ok (.if_icmp .ne 7, 3) := by decide +kernel
theorem d_TM_about_11 : decode b_TM_about 11 = .ok (.iconst 1, 1) := by decide +kernel
theorem d_TM_about_12 : decode b_TM_about 12 = .ok (.goto 4, 3) := by decide +kernel
theorem d_TM_about_15 : decode b_TM_about 15 = .ok (.iconst 0, 1) := by decide +kernel
theorem d_TM_about_16 : decode b_TM_about 16 = .ok (.istore_n 2, 1) := by decide +kernel
theorem d_TM_about_17 : decode b_TM_about 17 = .ok (.iload_n 1, 1) := by decide +kernel
theorem d_TM_about_18 : decode b_TM_about 18 = .ok (.tableswitch 113 0 5 #[38, 46, 54, 70, 78, 94], 38) := by decide +kernel
theorem d_TM_about_56 : decode b_TM_about 56 = .ok (.aload_n 0, 1) := by decide +kernel
theorem d_TM_about_57 : decode b_TM_about 57 = .ok (.getfield 21, 3) := by decide +kernel
theorem d_TM_about_60 : decode b_TM_about 60 = .ok (.getfield 65, 3) := by decide +kernel
theorem d_TM_about_63 : decode b_TM_about 63 = .ok (.ireturn, 1) := by decide +kernel
theorem d_TM_about_64 : decode b_TM_about 64 = .ok (.aload_n 0, 1) := by decide +kernel
theorem d_TM_about_65 : decode b_TM_about 65 = .ok (.getfield 21, 3) := by decide +kernel
theorem d_TM_about_68 : decode b_TM_about 68 = .ok (.getfield 72, 3) := by decide +kernel
theorem d_TM_about_71 : decode b_TM_about 71 = .ok (.ireturn, 1) := by decide +kernel
theorem d_TM_about_72 : decode b_TM_about 72 = .ok (.iload_n 2, 1) := by decide +kernel
theorem d_TM_about_73 : decode b_TM_about 73 = .ok (.ifCond .eq 13, 3) := by decide +kernel
theorem d_TM_about_76 : decode b_TM_about 76 = .ok (.aload_n 0, 1) := by decide +kernel
theorem d_TM_about_77 : decode b_TM_about 77 = .ok (.getfield 21, 3) := by decide +kernel
theorem d_TM_about_80 : decode b_TM_about 80 = .ok (.getfield 75, 3) := by decide +kernel
theorem d_TM_about_83 : decode b_TM_about 83 = .ok (.goto 4, 3) := by decide +kernel
theorem d_TM_about_86 : decode b_TM_about 86 = .ok (.iconst 0, 1) := by decide +kernel
theorem d_TM_about_87 : decode b_TM_about 87 = .ok (.ireturn, 1) := by decide +kernel
theorem d_TM_about_88 : decode b_TM_about 88 = .ok (.aload_n 0, 1) := by decide +kernel
theorem d_TM_about_89 : decode b_TM_about 89 = .ok (.getfield 21, 3) := by decide +kernel
theorem d_TM_about_92 : decode b_TM_about 92 = .ok (.getfield 78, 3) := by decide +kernel
theorem d_TM_about_95 : decode b_TM_about 95 = .ok (.ireturn, 1) := by decide +kernel
theorem d_TM_about_96 : decode b_TM_about 96 = .ok (.iload_n 2, 1) := by decide +kernel
theorem d_TM_about_97 : decode b_TM_about 97 = .ok (.ifCond .eq 13, 3) := by decide +kernel
theorem d_TM_about_100 : decode b_TM_about 100 = .ok (.aload_n 0, 1) := by decide +kernel
theorem d_TM_about_101 : decode b_TM_about 101 = .ok (.getfield 21, 3) := by decide +kernel
theorem d_TM_about_104 : decode b_TM_about 104 = .ok (.getfield 81, 3) := by decide +kernel
theorem d_TM_about_107 : decode b_TM_about 107 = .ok (.goto 4, 3) := by decide +kernel
theorem d_TM_about_110 : decode b_TM_about 110 = .ok (.iconst 0, 1) := by decide +kernel
theorem d_TM_about_111 : decode b_TM_about 111 = .ok (.ireturn, 1) := by decide +kernel
theorem d_TM_about_112 : decode b_TM_about 112 = .ok (.iload_n 2, 1) := by decide +kernel
theorem d_TM_about_113 : decode b_TM_about 113 = .ok (.ifCond .eq 16, 3) := by decide +kernel
theorem d_TM_about_116 : decode b_TM_about 116 = .ok (.aload_n 0, 1) := by decide +kernel
theorem d_TM_about_117 : decode b_TM_about 117 = .ok (.getfield 21, 3) := by decide +kernel
theorem d_TM_about_120 : decode b_TM_about 120 = .ok (.getfield 84, 3) := by decide +kernel
theorem d_TM_about_123 : decode b_TM_about 123 = .ok (.getfield 88, 3) := by decide +kernel
theorem d_TM_about_126 : decode b_TM_about 126 = .ok (.goto 4, 3) := by decide +kernel
theorem d_TM_about_129 : decode b_TM_about 129 = .ok (.iconst 0, 1) := by decide +kernel
theorem d_TM_about_130 : decode b_TM_about 130 = .ok (.ireturn, 1) := by decide +kernel
theorem d_TM_about_131 : decode b_TM_about 131 = .ok (.iconst (-1), 1) := by decide +kernel
theorem d_TM_about_132 : decode b_TM_about 132 = .ok (.ireturn, 1) := by decide +kernel
set_option maxHeartbeats 4000000 in
set_option maxRecDepth 100000 in
theorem c_TM_about (l : Launch) (D : va_G) (cI cL cZ : ClassId) (ad : Nat → Nat) (x : Int32) (u : tm_SC)  : tm_I l y_TM_about b_TM_about 3 .int ({ frames := 0, cells := 0, slots := 0, locals := 0 } : Room) D (tm_yC cI cL cZ) (tm_wC ad cI cL cZ) [.ref (ad 0), .int (x)] u (fun r u' => r = (cs_abt u x) ∧ u' = u) := by
  intro sz
  refine tm_of (Qc := fun A => va_Qi (fun r u' => r = (cs_abt u x) ∧ u' = u) (fun u' t => tm_B D (tm_yC cI cL cZ) A (tm_wC ad cI cL cZ u') t) A) (by decide) (Nat.le_of_ble_eq_true rfl) ?_ sz
  intro pg eg sg mg bel met cg A ls X h hl hnm
  have hx := X.1.1
  have hb := X.1.2.1
  have hl : lv_has ls 3 [(0, .ref (ad 0)), (1, .int (x))] := hl
  refine lv_aload_n hx hb d_TM_about_0 rfl (lv_at hl 0 rfl) ?_
  refine tm_get X h uw_TM 0 rfl rfl 1 (by decide) kw_166 rfl rfl d_TM_about_1 ?_
  refine tm_getN X h uw_RN 8 rfl rfl 6 (by decide) kw_120 rfl rfl d_TM_about_4 ?_
  refine lv_iconst (v := 1) hx hb d_TM_about_7 (by decide) ?_
  refine lv_icmp_ne hx hb d_TM_about_8 (tgt := 15) rfl (fun h8t => ?_) (fun h8f => ?_)
  · refine lv_iconst (v := 0) hx hb d_TM_about_15 (by decide) ?_
    refine lv_istore_n hx hb d_TM_about_16 rfl hl (by decide) rfl (fun ls (hl : lv_has ls 3 [(2, .int (0)), (0, .ref (ad 0)), (1, .int (x))]) => ?_)
    refine lv_iload_n hx hb d_TM_about_17 rfl (lv_at hl 2 rfl) ?_
    by_cases q18_0 : x = 0
    · refine tm_sw 0 q18_0 hx hb d_TM_about_18 (tgt := 56) (by decide) (by decide) rfl rfl ?_
      refine lv_aload_n hx hb d_TM_about_56 rfl (lv_at hl 1 rfl) ?_
      refine tm_get X h uw_TM 0 rfl rfl 1 (by decide) kw_166 rfl rfl d_TM_about_57 ?_
      refine tm_getN X h uw_RN 8 rfl rfl 6 (by decide) kw_120 rfl rfl d_TM_about_60 ?_
      exact tm_iret (w := tm_wC ad cI cL cZ) (u := u) X h (⟨by unfold cs_abt; rw [if_pos q18_0], rfl⟩) d_TM_about_63
    by_cases q18_1 : x = 1
    · refine tm_sw 1 q18_1 hx hb d_TM_about_18 (tgt := 64) (by decide) (by decide) rfl rfl ?_
      refine lv_aload_n hx hb d_TM_about_64 rfl (lv_at hl 1 rfl) ?_
      refine tm_get X h uw_TM 0 rfl rfl 1 (by decide) kw_166 rfl rfl d_TM_about_65 ?_
      refine tm_getN X h uw_RN 8 rfl rfl 8 (by decide) kw_123 rfl rfl d_TM_about_68 ?_
      exact tm_iret (w := tm_wC ad cI cL cZ) (u := u) X h (⟨by unfold cs_abt; rw [if_neg q18_0, if_pos q18_1], rfl⟩) d_TM_about_71
    by_cases q18_2 : x = 2
    · refine tm_sw 2 q18_2 hx hb d_TM_about_18 (tgt := 72) (by decide) (by decide) rfl rfl ?_
      refine lv_iload_n hx hb d_TM_about_72 rfl (lv_at hl 0 rfl) ?_
      refine lv_if_eq hx hb d_TM_about_73 (tgt := 86) rfl (fun _ => ?_) (fun q => absurd (rfl) q)
      refine lv_iconst (v := 0) hx hb d_TM_about_86 (by decide) ?_
      exact tm_iret (w := tm_wC ad cI cL cZ) (u := u) X h (⟨by unfold cs_abt; rw [if_neg q18_0, if_neg q18_1, if_pos q18_2, if_neg h8t], rfl⟩) d_TM_about_87
    by_cases q18_3 : x = 3
    · refine tm_sw 3 q18_3 hx hb d_TM_about_18 (tgt := 88) (by decide) (by decide) rfl rfl ?_
      refine lv_aload_n hx hb d_TM_about_88 rfl (lv_at hl 1 rfl) ?_
      refine tm_get X h uw_TM 0 rfl rfl 1 (by decide) kw_166 rfl rfl d_TM_about_89 ?_
      refine tm_getN X h uw_RN 8 rfl rfl 10 (by decide) kw_127 rfl rfl d_TM_about_92 ?_
      exact tm_iret (w := tm_wC ad cI cL cZ) (u := u) X h (⟨by unfold cs_abt; rw [if_neg q18_0, if_neg q18_1, if_neg q18_2, if_pos q18_3], rfl⟩) d_TM_about_95
    by_cases q18_4 : x = 4
    · refine tm_sw 4 q18_4 hx hb d_TM_about_18 (tgt := 96) (by decide) (by decide) rfl rfl ?_
      refine lv_iload_n hx hb d_TM_about_96 rfl (lv_at hl 0 rfl) ?_
      refine lv_if_eq hx hb d_TM_about_97 (tgt := 110) rfl (fun _ => ?_) (fun q => absurd (rfl) q)
      refine lv_iconst (v := 0) hx hb d_TM_about_110 (by decide) ?_
      exact tm_iret (w := tm_wC ad cI cL cZ) (u := u) X h (⟨by unfold cs_abt; rw [if_neg q18_0, if_neg q18_1, if_neg q18_2, if_neg q18_3, if_pos q18_4, if_neg h8t], rfl⟩) d_TM_about_111
    by_cases q18_5 : x = 5
    · refine tm_sw 5 q18_5 hx hb d_TM_about_18 (tgt := 112) (by decide) (by decide) rfl rfl ?_
      refine lv_iload_n hx hb d_TM_about_112 rfl (lv_at hl 0 rfl) ?_
      refine lv_if_eq hx hb d_TM_about_113 (tgt := 129) rfl (fun _ => ?_) (fun q => absurd (rfl) q)
      refine lv_iconst (v := 0) hx hb d_TM_about_129 (by decide) ?_
      exact tm_iret (w := tm_wC ad cI cL cZ) (u := u) X h (⟨by unfold cs_abt; rw [if_neg q18_0, if_neg q18_1, if_neg q18_2, if_neg q18_3, if_neg q18_4, if_pos q18_5, if_neg h8t], rfl⟩) d_TM_about_130
    refine lv_tableOut hx hb d_TM_about_18 (tm_swo6 q18_0 q18_1 q18_2 q18_3 q18_4 q18_5) (tgt := 131) rfl ?_
    refine lv_iconst (v := -1) hx hb d_TM_about_131 (by decide) ?_
    exact tm_iret (w := tm_wC ad cI cL cZ) (u := u) X h (⟨by unfold cs_abt; rw [if_neg q18_0, if_neg q18_1, if_neg q18_2, if_neg q18_3, if_neg q18_4, if_neg q18_5], rfl⟩) d_TM_about_132
  · refine lv_iconst (v := 1) hx hb d_TM_about_11 (by decide) ?_
    refine lv_goto hx hb d_TM_about_12 (tgt := 16) rfl ?_
    refine lv_istore_n hx hb d_TM_about_16 rfl hl (by decide) rfl (fun ls (hl : lv_has ls 3 [(2, .int (1)), (0, .ref (ad 0)), (1, .int (x))]) => ?_)
    refine lv_iload_n hx hb d_TM_about_17 rfl (lv_at hl 2 rfl) ?_
    by_cases q18_0 : x = 0
    · refine tm_sw 0 q18_0 hx hb d_TM_about_18 (tgt := 56) (by decide) (by decide) rfl rfl ?_
      refine lv_aload_n hx hb d_TM_about_56 rfl (lv_at hl 1 rfl) ?_
      refine tm_get X h uw_TM 0 rfl rfl 1 (by decide) kw_166 rfl rfl d_TM_about_57 ?_
      refine tm_getN X h uw_RN 8 rfl rfl 6 (by decide) kw_120 rfl rfl d_TM_about_60 ?_
      exact tm_iret (w := tm_wC ad cI cL cZ) (u := u) X h (⟨by unfold cs_abt; rw [if_pos q18_0], rfl⟩) d_TM_about_63
    by_cases q18_1 : x = 1
    · refine tm_sw 1 q18_1 hx hb d_TM_about_18 (tgt := 64) (by decide) (by decide) rfl rfl ?_
      refine lv_aload_n hx hb d_TM_about_64 rfl (lv_at hl 1 rfl) ?_
      refine tm_get X h uw_TM 0 rfl rfl 1 (by decide) kw_166 rfl rfl d_TM_about_65 ?_
      refine tm_getN X h uw_RN 8 rfl rfl 8 (by decide) kw_123 rfl rfl d_TM_about_68 ?_
      exact tm_iret (w := tm_wC ad cI cL cZ) (u := u) X h (⟨by unfold cs_abt; rw [if_neg q18_0, if_pos q18_1], rfl⟩) d_TM_about_71
    by_cases q18_2 : x = 2
    · refine tm_sw 2 q18_2 hx hb d_TM_about_18 (tgt := 72) (by decide) (by decide) rfl rfl ?_
      refine lv_iload_n hx hb d_TM_about_72 rfl (lv_at hl 0 rfl) ?_
      refine lv_if_eq hx hb d_TM_about_73 (tgt := 86) rfl (fun q => absurd q ((by decide))) (fun _ => ?_)
      refine lv_aload_n hx hb d_TM_about_76 rfl (lv_at hl 1 rfl) ?_
      refine tm_get X h uw_TM 0 rfl rfl 1 (by decide) kw_166 rfl rfl d_TM_about_77 ?_
      refine tm_getN X h uw_RN 8 rfl rfl 9 (by decide) kw_125 rfl rfl d_TM_about_80 ?_
      refine lv_goto hx hb d_TM_about_83 (tgt := 87) rfl ?_
      exact tm_iret (w := tm_wC ad cI cL cZ) (u := u) X h (⟨by unfold cs_abt; rw [if_neg q18_0, if_neg q18_1, if_pos q18_2, if_pos h8f], rfl⟩) d_TM_about_87
    by_cases q18_3 : x = 3
    · refine tm_sw 3 q18_3 hx hb d_TM_about_18 (tgt := 88) (by decide) (by decide) rfl rfl ?_
      refine lv_aload_n hx hb d_TM_about_88 rfl (lv_at hl 1 rfl) ?_
      refine tm_get X h uw_TM 0 rfl rfl 1 (by decide) kw_166 rfl rfl d_TM_about_89 ?_
      refine tm_getN X h uw_RN 8 rfl rfl 10 (by decide) kw_127 rfl rfl d_TM_about_92 ?_
      exact tm_iret (w := tm_wC ad cI cL cZ) (u := u) X h (⟨by unfold cs_abt; rw [if_neg q18_0, if_neg q18_1, if_neg q18_2, if_pos q18_3], rfl⟩) d_TM_about_95
    by_cases q18_4 : x = 4
    · refine tm_sw 4 q18_4 hx hb d_TM_about_18 (tgt := 96) (by decide) (by decide) rfl rfl ?_
      refine lv_iload_n hx hb d_TM_about_96 rfl (lv_at hl 0 rfl) ?_
      refine lv_if_eq hx hb d_TM_about_97 (tgt := 110) rfl (fun q => absurd q ((by decide))) (fun _ => ?_)
      refine lv_aload_n hx hb d_TM_about_100 rfl (lv_at hl 1 rfl) ?_
      refine tm_get X h uw_TM 0 rfl rfl 1 (by decide) kw_166 rfl rfl d_TM_about_101 ?_
      refine tm_getN X h uw_RN 8 rfl rfl 5 (by decide) kw_118 rfl rfl d_TM_about_104 ?_
      refine lv_goto hx hb d_TM_about_107 (tgt := 111) rfl ?_
      exact tm_iret (w := tm_wC ad cI cL cZ) (u := u) X h (⟨by unfold cs_abt; rw [if_neg q18_0, if_neg q18_1, if_neg q18_2, if_neg q18_3, if_pos q18_4, if_pos h8f], rfl⟩) d_TM_about_111
    by_cases q18_5 : x = 5
    · refine tm_sw 5 q18_5 hx hb d_TM_about_18 (tgt := 112) (by decide) (by decide) rfl rfl ?_
      refine lv_iload_n hx hb d_TM_about_112 rfl (lv_at hl 0 rfl) ?_
      refine lv_if_eq hx hb d_TM_about_113 (tgt := 129) rfl (fun q => absurd q ((by decide))) (fun _ => ?_)
      refine lv_aload_n hx hb d_TM_about_116 rfl (lv_at hl 1 rfl) ?_
      refine tm_get X h uw_TM 0 rfl rfl 1 (by decide) kw_166 rfl rfl d_TM_about_117 ?_
      refine tm_getN X h uw_RN 8 rfl rfl 2 (by decide) kw_114 rfl rfl d_TM_about_120 ?_
      refine tm_getN X h uw_CL 14 rfl rfl 3 (by decide) kw_99 rfl rfl d_TM_about_123 ?_
      refine lv_goto hx hb d_TM_about_126 (tgt := 130) rfl ?_
      exact tm_iret (w := tm_wC ad cI cL cZ) (u := u) X h (⟨by unfold cs_abt; rw [if_neg q18_0, if_neg q18_1, if_neg q18_2, if_neg q18_3, if_neg q18_4, if_pos q18_5, if_pos h8f], rfl⟩) d_TM_about_130
    refine lv_tableOut hx hb d_TM_about_18 (tm_swo6 q18_0 q18_1 q18_2 q18_3 q18_4 q18_5) (tgt := 131) rfl ?_
    refine lv_iconst (v := -1) hx hb d_TM_about_131 (by decide) ?_
    exact tm_iret (w := tm_wC ad cI cL cZ) (u := u) X h (⟨by unfold cs_abt; rw [if_neg q18_0, if_neg q18_1, if_neg q18_2, if_neg q18_3, if_neg q18_4, if_neg q18_5], rfl⟩) d_TM_about_132
