theorem kw_484 : (Jvm.Cond.instanceMethod ({ cls := "TrimmedMachine$Run", name := "returnToFrame", desc := "()V" } : Jvm.MethodName)) ∈ tm_wa := tm_tb (List.mem_append_right _ (List.mem_append_right _ (List.mem_append_left _ (List.mem_of_getElem? (i := 4) (by decide +kernel))))) rfl
theorem kw_485 : (Jvm.Cond.code ({ cls := "TrimmedMachine$Run", name := "returnToFrame", desc := "()V" } : Jvm.MethodName) prog_5_method_8_code (2 : Nat) (Option.none : Option Jvm.ClassFile.FieldType)) ∈ tm_wa := tm_tb (List.mem_append_right _ (List.mem_append_right _ (List.mem_append_left _ (List.mem_of_getElem? (i := 5) (rfl))))) rfl
theorem kw_486 : (Jvm.Cond.methodLink "TrimmedMachine$Run" (166 : Nat) ({ cls := "TrimmedMachine$Run", name := "evaluateSecond", desc := "(II)V" } : Jvm.MethodName)) ∈ tm_wa := tm_tb (List.mem_append_right _ (List.mem_append_right _ (List.mem_append_left _ (List.mem_of_getElem? (i := 6) (by decide +kernel))))) rfl
theorem kw_496 : (Jvm.Cond.methodLink "TrimmedMachine$Run" (169 : Nat) ({ cls := "TrimmedMachine$Run", name := "operate", desc := "(I)V" } : Jvm.MethodName)) ∈ tm_wa := tm_tb (List.mem_append_right _ (List.mem_append_right _ (List.mem_append_left _ (List.mem_of_getElem? (i := 16) (by decide +kernel))))) rfl
theorem kw_498 : (Jvm.Cond.instanceMethod ({ cls := "TrimmedMachine$Run", name := "operate", desc := "(I)V" } : Jvm.MethodName)) ∈ tm_wa := tm_tb (List.mem_append_right _ (List.mem_append_right _ (List.mem_append_left _ (List.mem_of_getElem? (i := 18) (by decide +kernel))))) rfl
theorem kw_499 : (Jvm.Cond.code ({ cls := "TrimmedMachine$Run", name := "operate", desc := "(I)V" } : Jvm.MethodName) prog_5_method_10_code (4 : Nat) (Option.none : Option Jvm.ClassFile.FieldType)) ∈ tm_wa := tm_tb (List.mem_append_right _ (List.mem_append_right _ (List.mem_append_left _ (List.mem_of_getElem? (i := 19) (rfl))))) rfl
theorem kw_500 : (Jvm.Cond.methodLink "TrimmedMachine$Run" (188 : Nat) ({ cls := "TrimmedMachine$Run", name := "needInt", desc := "(J)I" } : Jvm.MethodName)) ∈ tm_wa := tm_tb (List.mem_append_right _ (List.mem_append_right _ (List.mem_append_left _ (List.mem_of_getElem? (i := 20) (by decide +kernel))))) rfl
theorem kw_520 : (Jvm.Cond.methodLink "TrimmedMachine$Run" (192 : Nat) ({ cls := "TrimmedMachine$Run", name := "operated", desc := "(III)I" } : Jvm.MethodName)) ∈ tm_wa := tm_tb (List.mem_append_right _ (List.mem_append_right _ (List.mem_append_left _ (List.mem_of_getElem? (i := 40) (by decide +kernel))))) rfl
theorem kw_523 : (Jvm.Cond.methodLink "TrimmedMachine$Run" (172 : Nat) ({ cls := "TrimmedMachine$Run", name := "branch", desc := "(I)V" } : Jvm.MethodName)) ∈ tm_wa := tm_tb (List.mem_append_right _ (List.mem_append_right _ (List.mem_append_left _ (List.mem_of_getElem? (i := 43) (by decide +kernel))))) rfl
theorem kw_525 : (Jvm.Cond.instanceMethod ({ cls := "TrimmedMachine$Run", name := "branch", desc := "(I)V" } : Jvm.MethodName)) ∈ tm_wa := tm_tb (List.mem_append_right _ (List.mem_append_right _ (List.mem_append_left _ (List.mem_of_getElem? (i := 45) (by decide +kernel))))) rfl
theorem kw_526 : (Jvm.Cond.code ({ cls := "TrimmedMachine$Run", name := "branch", desc := "(I)V" } : Jvm.MethodName) prog_5_method_11_code (4 : Nat) (Option.none : Option Jvm.ClassFile.FieldType)) ∈ tm_wa := tm_tb (List.mem_append_right _ (List.mem_append_right _ (List.mem_append_left _ (List.mem_of_getElem? (i := 46) (rfl))))) rfl
theorem kw_527 : (Jvm.Cond.methodLink "TrimmedMachine$Run" (175 : Nat) ({ cls := "TrimmedMachine$Run", name := "apply", desc := "(I)V" } : Jvm.MethodName)) ∈ tm_wa := tm_tb (List.mem_append_right _ (List.mem_append_right _ (List.mem_append_left _ (List.mem_of_getElem? (i := 47) (by decide +kernel))))) rfl
theorem kw_529 : (Jvm.Cond.instanceMethod ({ cls := "TrimmedMachine$Run", name := "apply", desc := "(I)V" } : Jvm.MethodName)) ∈ tm_wa := tm_tb (List.mem_append_right _ (List.mem_append_right _ (List.mem_append_left _ (List.mem_of_getElem? (i := 49) (by decide +kernel))))) rfl
theorem kw_530 : (Jvm.Cond.code ({ cls := "TrimmedMachine$Run", name := "apply", desc := "(I)V" } : Jvm.MethodName) prog_5_method_12_code (9 : Nat) (Option.none : Option Jvm.ClassFile.FieldType)) ∈ tm_wa := tm_tb (List.mem_append_right _ (List.mem_append_right _ (List.mem_append_left _ (List.mem_of_getElem? (i := 50) (rfl))))) rfl
theorem kw_531 : (Jvm.Cond.methodLink "TrimmedMachine$Run" (196 : Nat) ({ cls := "TrimmedMachine$Run", name := "needClosure", desc := "(J)I" } : Jvm.MethodName)) ∈ tm_wa := tm_tb (List.mem_append_right _ (List.mem_append_right _ (List.mem_append_left _ (List.mem_of_getElem? (i := 51) (by decide +kernel))))) rfl
theorem kw_536 : (Jvm.Cond.methodLinkNest "TrimmedMachine$Run" (199 : Nat) ({ cls := "TrimmedMachine$Rows", name := "give", desc := "(IIJ)V" } : Jvm.MethodName) "TrimmedMachine") ∈ tm_nw := tm_nin (List.mem_append_right _ (List.mem_append_right _ (List.mem_append_left _ (List.mem_of_getElem? (i := 56) (by decide +kernel))))) rfl
abbrev y_RN_operate : MethodName := { cls := "TrimmedMachine$Run", name := "operate", desc := "(I)V" }
abbrev b_RN_operate : ByteArray := prog_5_method_10_code
theorem ki_RN_operate : tm_ki y_RN_operate b_RN_operate 4 none 1 := ⟨⟨kw_3, kw_499, by decide, by decide, by decide +kernel⟩, kw_498, tm_sel (n := 15) (List.mem_append_right _ (List.mem_append_left _ (List.mem_of_getElem? (i := 13) rfl)))⟩
abbrev y_RN_branch : MethodName := { cls := "TrimmedMachine$Run", name := "branch", desc := "(I)V" }
abbrev b_RN_branch : ByteArray := prog_5_method_11_code
theorem ki_RN_branch : tm_ki y_RN_branch b_RN_branch 4 none 1 := ⟨⟨kw_3, kw_526, by decide, by decide, by decide +kernel⟩, kw_525, tm_sel (n := 15) (List.mem_append_right _ (List.mem_append_left _ (List.mem_of_getElem? (i := 15) rfl)))⟩
abbrev y_RN_apply : MethodName := { cls := "TrimmedMachine$Run", name := "apply", desc := "(I)V" }
abbrev b_RN_apply : ByteArray := prog_5_method_12_code
theorem ki_RN_apply : tm_ki y_RN_apply b_RN_apply 9 none 1 := ⟨⟨kw_3, kw_530, by decide, by decide, by decide +kernel⟩, kw_529, tm_sel (n := 15) (List.mem_append_right _ (List.mem_append_right _ (List.mem_append_left _ (List.mem_of_getElem? (i := 0) rfl))))⟩
abbrev y_RN_returnToFrame : MethodName := { cls := "TrimmedMachine$Run", name := "returnToFrame", desc := "()V" }
abbrev b_RN_returnToFrame : ByteArray := prog_5_method_8_code
theorem ki_RN_returnToFrame : tm_ki y_RN_returnToFrame b_RN_returnToFrame 2 none 0 := ⟨⟨kw_3, kw_485, by decide, by decide, by decide +kernel⟩, kw_484, tm_sel (n := 15) (List.mem_append_right _ (List.mem_append_left _ (List.mem_of_getElem? (i := 10) rfl)))⟩
theorem d_RN_operate_0 : decode b_RN_operate 0 = .ok (.aload_n 0, 1) := by decide +kernel
theorem d_RN_operate_1 : decode b_RN_operate 1 = .ok (.aload_n 0, 1) := by decide +kernel
theorem d_RN_operate_2 : decode b_RN_operate 2 = .ok (.getfield 12, 3) := by decide +kernel
theorem d_RN_operate_5 : decode b_RN_operate 5 = .ok (.iload_n 1, 1) := by decide +kernel
theorem d_RN_operate_6 : decode b_RN_operate 6 = .ok (.invokestatic 163, 3) := by decide +kernel
theorem d_RN_operate_9 : decode b_RN_operate 9 = .ok (.invokevirtual 178, 3) := by decide +kernel
theorem d_RN_operate_12 : decode b_RN_operate 12 = .ok (.invokevirtual 188, 3) := by decide +kernel
theorem d_RN_operate_15 : decode b_RN_operate 15 = .ok (.istore_n 2, 1) := by decide +kernel
theorem d_RN_operate_16 : decode b_RN_operate 16 = .ok (.aload_n 0, 1) := by decide +kernel
theorem d_RN_operate_17 : decode b_RN_operate 17 = .ok (.aload_n 0, 1) := by decide +kernel
theorem d_RN_operate_18 : decode b_RN_operate 18 = .ok (.getfield 12, 3) := by decide +kernel
theorem d_RN_operate_21 : decode b_RN_operate 21 = .ok (.iconst 0, 1) := by decide +kernel
theorem d_RN_operate_22 : decode b_RN_operate 22 = .ok (.invokevirtual 178, 3) := by decide +kernel
theorem d_RN_operate_25 : decode b_RN_operate 25 = .ok (.invokevirtual 188, 3) := by decide +kernel
theorem d_RN_operate_28 : decode b_RN_operate 28 = .ok (.istore_n 3, 1) := by decide +kernel
theorem d_RN_operate_29 : decode b_RN_operate 29 = .ok (.aload_n 0, 1) := by decide +kernel
theorem d_RN_operate_30 : decode b_RN_operate 30 = .ok (.iload_n 1, 1) := by decide +kernel
theorem d_RN_operate_31 : decode b_RN_operate 31 = .ok (.putfield 46, 3) := by decide +kernel
theorem d_RN_operate_34 : decode b_RN_operate 34 = .ok (.aload_n 0, 1) := by decide +kernel
theorem d_RN_operate_35 : decode b_RN_operate 35 = .ok (.aload_n 0, 1) := by decide +kernel
theorem d_RN_operate_36 : decode b_RN_operate 36 = .ok (.getfield 36, 3) := by decide +kernel
theorem d_RN_operate_39 : decode b_RN_operate 39 = .ok (.getfield 120, 3) := by decide +kernel
theorem d_RN_operate_42 : decode b_RN_operate 42 = .ok (.aload_n 0, 1) := by decide +kernel
theorem d_RN_operate_43 : decode b_RN_operate 43 = .ok (.getfield 29, 3) := by decide +kernel
theorem d_RN_operate_46 : decode b_RN_operate 46 = .ok (.iload_n 1, 1) := by decide +kernel
theorem d_RN_operate_47 : decode b_RN_operate 47 = .ok (.iaload, 1) := by decide +kernel
theorem d_RN_operate_48 : decode b_RN_operate 48 = .ok (.iaload, 1) := by decide +kernel
theorem d_RN_operate_49 : decode b_RN_operate 49 = .ok (.iload_n 2, 1) := by decide +kernel
theorem d_RN_operate_50 : decode b_RN_operate 50 = .ok (.iload_n 3, 1) := by decide +kernel
theorem d_RN_operate_51 : decode b_RN_operate 51 = .ok (.invokestatic 192, 3) := by decide +kernel
theorem d_RN_operate_54 : decode b_RN_operate 54 = .ok (.i2l, 1) := by decide +kernel
theorem d_RN_operate_55 : decode b_RN_operate 55 = .ok (.invokevirtual 99, 3) := by decide +kernel
theorem d_RN_operate_58 : decode b_RN_operate 58 = .ok (.return_, 1) := by decide +kernel
set_option maxHeartbeats 4000000 in
set_option maxRecDepth 100000 in
theorem c_RN_operate (l : Launch) (D : va_G) (cI cL cZ : ClassId) (ad : Nat → Nat) (hst : l.stackTraces = false) (f : Nat) (e : Nat) (u : tm_SC) (hf : f < 120) (he : e < 100) (h7 : u.2.1 7 f = nI e) : tx_V l y_RN_operate b_RN_operate 4 ({ frames := 7, cells := 1, slots := 6, locals := 112 } : Room) D (tm_yC cI cL cZ) (tm_wC ad cI cL cZ) [.ref (ad 8), .int (nI f)] u (fun u' => u' = (cs_opx u f e) ∧ (u.2.2 ((1 + f) * 8 + 0) < 4294967296 ∧ u.2.2 (0 * 8 + 0) < 4294967296)) (fun E u' => E = "java/lang/UnsupportedOperationException" ∧ u' = tm_sf u 1 3 ∧ ¬ (u.2.2 ((1 + f) * 8 + 0) < 4294967296 ∧ u.2.2 (0 * 8 + 0) < 4294967296)) := by
  intro sz
  refine tx_of (Qc := fun A => va_Qv (fun u' => u' = (cs_opx u f e) ∧ (u.2.2 ((1 + f) * 8 + 0) < 4294967296 ∧ u.2.2 (0 * 8 + 0) < 4294967296)) (fun u' t => tm_B D (tm_yC cI cL cZ) A (tm_wC ad cI cL cZ u') t) A) (XC := fun A => tx_X D (tm_yC cI cL cZ) (tm_wC ad cI cL cZ) A (fun E u' => E = "java/lang/UnsupportedOperationException" ∧ u' = tm_sf u 1 3 ∧ ¬ (u.2.2 ((1 + f) * 8 + 0) < 4294967296 ∧ u.2.2 (0 * 8 + 0) < 4294967296))) (by decide) (Nat.le_of_ble_eq_true rfl) ?_ sz
  intro pg eg sg mg bel met cg A ls X h hl hE htab
  have hx := X.1.1
  have hb := X.1.2.1
  have hl : lv_has ls 4 [(0, .ref (ad 8)), (1, .int (nI f))] := hl
  refine lv_aload_n hx hb d_RN_operate_0 rfl (lv_at hl 0 rfl) ?_
  refine lv_aload_n hx hb d_RN_operate_1 rfl (lv_at hl 0 rfl) ?_
  refine tm_get X h uw_RN 8 rfl rfl 1 (by decide) kw_112 rfl rfl d_RN_operate_2 ?_
  refine lv_iload_n hx hb d_RN_operate_5 rfl (lv_at hl 1 rfl) ?_
  refine tm_cIf X h (tm_rSN X h (c_RW_ofFrame l D cI cL cZ ad (f) u  _) ks_RW_ofFrame kw_395 rfl rfl ⟨by decide, by decide⟩ rfl hl.1 rfl (Nat.le_of_ble_eq_true rfl) d_RN_operate_6 ⟨by decide, by decide⟩) (fun H locs h => ?_)
  refine tm_cLf X h (tm_rVN (q0 := 11) X h (c_RW_single l D cI cL cZ ad (1 + f) u (by omega) _) ki_RW_single kw_490 rfl rfl rfl rfl rfl ⟨by decide, by decide⟩ rfl hl.1 rfl (Nat.le_of_ble_eq_true rfl) d_RN_operate_9 ⟨by decide, by decide⟩) (fun H locs h => ?_)
  refine tx_cIf X h (tx_rV (q0 := 8) X h hE (c_RN_needInt l D cI cL cZ ad hst ((u.2.2 ((1 + f) * 8 + 0))) u  _) ki_RN_needInt kw_500 rfl rfl rfl rfl rfl ⟨by decide, by decide⟩ rfl hl.1 rfl (Nat.le_of_ble_eq_true rfl) d_RN_operate_12 ⟨by decide, by decide⟩) (fun E9 u9 q9 ce9 H locs hx9 h e91 e92 e93 => tx_out (w := tm_wC ad cI cL cZ) (u := u9) X htab h e91 e92 e93 (⟨hx9.1, hx9.2.1, fun q => hx9.2.2 q.1⟩)) (fun H locs f12 h => ?_)
  refine lv_istore_n hx hb d_RN_operate_15 rfl hl (by decide) rfl (fun ls (hl : lv_has ls 4 [(2, .int ((((u.2.2 ((1 + f) * 8 + 0))).toInt32))), (0, .ref (ad 8)), (1, .int (nI f))]) => ?_)
  refine lv_aload_n hx hb d_RN_operate_16 rfl (lv_at hl 1 rfl) ?_
  refine lv_aload_n hx hb d_RN_operate_17 rfl (lv_at hl 1 rfl) ?_
  refine tm_get X h uw_RN 8 rfl rfl 1 (by decide) kw_112 rfl rfl d_RN_operate_18 ?_
  refine lv_iconst (v := 0) hx hb d_RN_operate_21 (by decide) ?_
  refine tm_cLf X h (tm_rVN (q0 := 11) X h (c_RW_single l D cI cL cZ ad (0) u (by decide) _) ki_RW_single kw_490 rfl rfl rfl rfl rfl ⟨by decide, by decide⟩ rfl hl.1 rfl (Nat.le_of_ble_eq_true rfl) d_RN_operate_22 ⟨by decide, by decide⟩) (fun H locs h => ?_)
  refine tx_cIf X h (tx_rV (q0 := 8) X h hE (c_RN_needInt l D cI cL cZ ad hst ((u.2.2 ((0) * 8 + 0))) u  _) ki_RN_needInt kw_500 rfl rfl rfl rfl rfl ⟨by decide, by decide⟩ rfl hl.1 rfl (Nat.le_of_ble_eq_true rfl) d_RN_operate_25 ⟨by decide, by decide⟩) (fun E9 u9 q9 ce9 H locs hx9 h e91 e92 e93 => tx_out (w := tm_wC ad cI cL cZ) (u := u9) X htab h e91 e92 e93 (⟨hx9.1, hx9.2.1, fun q => hx9.2.2 q.2⟩)) (fun H locs f25 h => ?_)
  refine lv_istore_n hx hb d_RN_operate_28 rfl hl (by decide) rfl (fun ls (hl : lv_has ls 4 [(3, .int ((((u.2.2 ((0) * 8 + 0))).toInt32))), (2, .int ((((u.2.2 ((1 + f) * 8 + 0))).toInt32))), (0, .ref (ad 8)), (1, .int (nI f))]) => ?_)
  refine lv_aload_n hx hb d_RN_operate_29 rfl (lv_at hl 2 rfl) ?_
  refine lv_iload_n hx hb d_RN_operate_30 rfl (lv_at hl 3 rfl) ?_
  refine tm_put X h uw_RN t_RN t_RN_ok n_RN 8 rfl rfl 5 (by decide) kw_117 rfl rfl (rfl) (rfl) (Nat.le_of_ble_eq_true rfl) (ws' := tm_wC ad cI cL cZ (tm_sf u 0 (nI f))) rfl d_RN_operate_31 (fun H locs h => ?_)
  refine lv_aload_n hx hb d_RN_operate_34 rfl (lv_at hl 2 rfl) ?_
  refine lv_aload_n hx hb d_RN_operate_35 rfl (lv_at hl 2 rfl) ?_
  refine tm_get X h uw_RN 8 rfl rfl 0 (by decide) kw_111 rfl rfl d_RN_operate_36 ?_
  refine tm_getN X h uw_EX 1 rfl rfl 3 (by decide) kw_42 rfl rfl d_RN_operate_39 ?_
  refine lv_aload_n hx hb d_RN_operate_42 rfl (lv_at hl 2 rfl) ?_
  refine tm_get X h uw_RN 8 rfl rfl 4 (by decide) kw_116 rfl rfl d_RN_operate_43 ?_
  refine lv_iload_n hx hb d_RN_operate_46 rfl (lv_at hl 3 rfl) ?_
  refine tm_iald X h 10 0 rfl rfl (f) (by omega) (rfl) (by decide) d_RN_operate_47 ?_
  refine tm_iald X h 5 0 rfl rfl (e) (he) (h7) (by decide) d_RN_operate_48 ?_
  refine lv_iload_n hx hb d_RN_operate_49 rfl (lv_at hl 1 rfl) ?_
  refine lv_iload_n hx hb d_RN_operate_50 rfl (lv_at hl 0 rfl) ?_
  refine tm_cIf X h (tm_rS X h (c_RN_operated l D cI cL cZ ad ((((tm_sf u 0 (nI f))).2.1 3 (e))) ((((u.2.2 ((1 + f) * 8 + 0))).toInt32)) ((((u.2.2 ((0) * 8 + 0))).toInt32)) (tm_sf u 0 (nI f))  _) ks_RN_operated kw_520 rfl rfl ⟨by decide, by decide⟩ rfl hl.1 rfl (Nat.le_of_ble_eq_true rfl) d_RN_operate_51 ⟨by decide, by decide⟩) (fun H locs h => ?_)
  refine lv_i2l hx hb d_RN_operate_54 rfl ?_
  refine tm_cVf X h (tm_rV (q0 := 8) X h (c_RN_returnValue l D cI cL cZ ad (((cs_opd ((((tm_sf u 0 (nI f))).2.1 3 (e))) ((((u.2.2 ((1 + f) * 8 + 0))).toInt32)) ((((u.2.2 ((0) * 8 + 0))).toInt32)))).toInt64) (tm_sf u 0 (nI f))  _) ki_RN_returnValue kw_419 rfl rfl rfl rfl rfl ⟨by decide, by decide⟩ rfl hl.1 rfl (Nat.le_of_ble_eq_true rfl) d_RN_operate_55 ⟨by decide, by decide⟩) (fun H locs h => ?_)
  exact tx_vret (w := tm_wC ad cI cL cZ) (u := (cs_ret (tm_sf u 0 (nI f)) (((cs_opd ((((tm_sf u 0 (nI f))).2.1 3 (e))) ((((u.2.2 ((1 + f) * 8 + 0))).toInt32)) ((((u.2.2 ((0) * 8 + 0))).toInt32)))).toInt64))) X h (⟨rfl, f12, f25⟩) d_RN_operate_58
theorem d_RN_branch_0 : decode b_RN_branch 0 = .ok (.aload_n 0, 1) := by decide +kernel
theorem d_RN_branch_1 : decode b_RN_branch 1 = .ok (.aload_n 0, 1) := by decide +kernel
theorem d_RN_branch_2 : decode b_RN_branch 2 = .ok (.getfield 12, 3) := by decide +kernel
theorem d_RN_branch_5 : decode b_RN_branch 5 = .ok (.iconst 0, 1) := by decide +kernel
theorem d_RN_branch_6 : decode b_RN_branch 6 = .ok (.invokevirtual 178, 3) := by decide +kernel
theorem d_RN_branch_9 : decode b_RN_branch 9 = .ok (.invokevirtual 188, 3) := by decide +kernel
theorem d_RN_branch_12 : decode b_RN_branch 12 = .ok (.istore_n 2, 1) := by decide +kernel
theorem d_RN_branch_13 : decode b_RN_branch 13 = .ok (.aload_n 0, 1) := by decide +kernel
theorem d_RN_branch_14 : decode b_RN_branch 14 = .ok (.getfield 29, 3) := by decide +kernel
theorem d_RN_branch_17 : decode b_RN_branch 17 = .ok (.iload_n 1, 1) := by decide +kernel
theorem d_RN_branch_18 : decode b_RN_branch 18 = .ok (.iaload, 1) := by decide +kernel
theorem d_RN_branch_19 : decode b_RN_branch 19 = .ok (.istore_n 3, 1) := by decide +kernel
theorem d_RN_branch_20 : decode b_RN_branch 20 = .ok (.aload_n 0, 1) := by decide +kernel
theorem d_RN_branch_21 : decode b_RN_branch 21 = .ok (.iload_n 1, 1) := by decide +kernel
theorem d_RN_branch_22 : decode b_RN_branch 22 = .ok (.putfield 46, 3) := by decide +kernel
theorem d_RN_branch_25 : decode b_RN_branch 25 = .ok (.aload_n 0, 1) := by decide +kernel
theorem d_RN_branch_26 : decode b_RN_branch 26 = .ok (.getfield 12, 3) := by decide +kernel
theorem d_RN_branch_29 : decode b_RN_branch 29 = .ok (.iload_n 1, 1) := by decide +kernel
theorem d_RN_branch_30 : decode b_RN_branch 30 = .ok (.invokestatic 163, 3) := by decide +kernel
theorem d_RN_branch_33 : decode b_RN_branch 33 = .ok (.iconst 0, 1) := by decide +kernel
theorem d_RN_branch_34 : decode b_RN_branch 34 = .ok (.invokevirtual 181, 3) := by decide +kernel
theorem d_RN_branch_37 : decode b_RN_branch 37 = .ok (.aload_n 0, 1) := by decide +kernel
theorem d_RN_branch_38 : decode b_RN_branch 38 = .ok (.iload_n 2, 1) := by decide +kernel
theorem d_RN_branch_39 : decode b_RN_branch 39 = .ok (.ifCond .eq 15, 3) := by decide +kernel
theorem d_RN_branch_42 : decode b_RN_branch 42 = .ok (.aload_n 0, 1) := by decide +kernel
theorem d_RN_branch_43 : decode b_RN_branch 43 = .ok (.getfield 36, 3) := by decide +kernel
theorem d_RN_branch_46 : decode b_RN_branch 46 = .ok (.getfield 109, 3) := by decide +kernel
theorem d_RN_branch_49 : decode b_RN_branch 49 = .ok (.iload_n 3, 1) := by decide +kernel
theorem d_RN_branch_50 : decode b_RN_branch 50 = .ok (.iaload, 1) := by decide +kernel
theorem d_RN_branch_51 : decode b_RN_branch 51 = .ok (.goto 12, 3) := by decide +kernel
theorem d_RN_branch_54 : decode b_RN_branch 54 = .ok (.aload_n 0, 1) := by decide +kernel
theorem d_RN_branch_55 : decode b_RN_branch 55 = .ok (.getfield 36, 3) := by decide +kernel
theorem d_RN_branch_58 : decode b_RN_branch 58 = .ok (.getfield 120, 3) := by decide +kernel
theorem d_RN_branch_61 : decode b_RN_branch 61 = .ok (.iload_n 3, 1) := by decide +kernel
theorem d_RN_branch_62 : decode b_RN_branch 62 = .ok (.iaload, 1) := by decide +kernel
theorem d_RN_branch_63 : decode b_RN_branch 63 = .ok (.invokevirtual 56, 3) := by decide +kernel
theorem d_RN_branch_66 : decode b_RN_branch 66 = .ok (.return_, 1) := by decide +kernel
set_option maxHeartbeats 4000000 in
set_option maxRecDepth 100000 in
theorem c_RN_branch (l : Launch) (D : va_G) (cI cL cZ : ClassId) (ad : Nat → Nat) (hst : l.stackTraces = false) (f : Nat) (e : Nat) (u : tm_SC) (hf : f < 120) (he : e < 100) (h7 : u.2.1 7 f = nI e) (h2 : vp_in (u.2.1 2 e) 100) (h3 : vp_in (u.2.1 3 e) 100) : tx_V l y_RN_branch b_RN_branch 4 ({ frames := 7, cells := 1, slots := 6, locals := 112 } : Room) D (tm_yC cI cL cZ) (tm_wC ad cI cL cZ) [.ref (ad 8), .int (nI f)] u (fun u' => u' = (cs_brx u f (if (u.2.2 (0 * 8 + 0)).toInt32 = 0 then (u.2.1 3 e).toNatClampNeg else (u.2.1 2 e).toNatClampNeg)) ∧ u.2.2 (0 * 8 + 0) < 4294967296) (fun E u' => E = "java/lang/UnsupportedOperationException" ∧ u' = tm_sf u 1 3 ∧ ¬ u.2.2 (0 * 8 + 0) < 4294967296) := by
  intro sz
  refine tx_of (Qc := fun A => va_Qv (fun u' => u' = (cs_brx u f (if (u.2.2 (0 * 8 + 0)).toInt32 = 0 then (u.2.1 3 e).toNatClampNeg else (u.2.1 2 e).toNatClampNeg)) ∧ u.2.2 (0 * 8 + 0) < 4294967296) (fun u' t => tm_B D (tm_yC cI cL cZ) A (tm_wC ad cI cL cZ u') t) A) (XC := fun A => tx_X D (tm_yC cI cL cZ) (tm_wC ad cI cL cZ) A (fun E u' => E = "java/lang/UnsupportedOperationException" ∧ u' = tm_sf u 1 3 ∧ ¬ u.2.2 (0 * 8 + 0) < 4294967296)) (by decide) (Nat.le_of_ble_eq_true rfl) ?_ sz
  intro pg eg sg mg bel met cg A ls X h hl hE htab
  have hx := X.1.1
  have hb := X.1.2.1
  have hl : lv_has ls 4 [(0, .ref (ad 8)), (1, .int (nI f))] := hl
  refine lv_aload_n hx hb d_RN_branch_0 rfl (lv_at hl 0 rfl) ?_
  refine lv_aload_n hx hb d_RN_branch_1 rfl (lv_at hl 0 rfl) ?_
  refine tm_get X h uw_RN 8 rfl rfl 1 (by decide) kw_112 rfl rfl d_RN_branch_2 ?_
  refine lv_iconst (v := 0) hx hb d_RN_branch_5 (by decide) ?_
  refine tm_cLf X h (tm_rVN (q0 := 11) X h (c_RW_single l D cI cL cZ ad (0) u (by decide) _) ki_RW_single kw_490 rfl rfl rfl rfl rfl ⟨by decide, by decide⟩ rfl hl.1 rfl (Nat.le_of_ble_eq_true rfl) d_RN_branch_6 ⟨by decide, by decide⟩) (fun H locs h => ?_)
  refine tx_cIf X h (tx_rV (q0 := 8) X h hE (c_RN_needInt l D cI cL cZ ad hst ((u.2.2 ((0) * 8 + 0))) u  _) ki_RN_needInt kw_500 rfl rfl rfl rfl rfl ⟨by decide, by decide⟩ rfl hl.1 rfl (Nat.le_of_ble_eq_true rfl) d_RN_branch_9 ⟨by decide, by decide⟩) (fun E9 u9 q9 ce9 H locs hx9 h e91 e92 e93 => tx_out (w := tm_wC ad cI cL cZ) (u := u9) X htab h e91 e92 e93 (hx9)) (fun H locs f9 h => ?_)
  refine lv_istore_n hx hb d_RN_branch_12 rfl hl (by decide) rfl (fun ls (hl : lv_has ls 4 [(2, .int ((((u.2.2 ((0) * 8 + 0))).toInt32))), (0, .ref (ad 8)), (1, .int (nI f))]) => ?_)
  refine lv_aload_n hx hb d_RN_branch_13 rfl (lv_at hl 1 rfl) ?_
  refine tm_get X h uw_RN 8 rfl rfl 4 (by decide) kw_116 rfl rfl d_RN_branch_14 ?_
  refine lv_iload_n hx hb d_RN_branch_17 rfl (lv_at hl 2 rfl) ?_
  refine tm_iald X h 10 0 rfl rfl (f) (by omega) (rfl) (by decide) d_RN_branch_18 ?_
  refine tm_top (y := nI e) (h7) ?_
  refine lv_istore_n hx hb d_RN_branch_19 rfl hl (by decide) rfl (fun ls (hl : lv_has ls 4 [(3, .int (nI e)), (2, .int ((((u.2.2 ((0) * 8 + 0))).toInt32))), (0, .ref (ad 8)), (1, .int (nI f))]) => ?_)
  refine lv_aload_n hx hb d_RN_branch_20 rfl (lv_at hl 2 rfl) ?_
  refine lv_iload_n hx hb d_RN_branch_21 rfl (lv_at hl 3 rfl) ?_
  refine tm_put X h uw_RN t_RN t_RN_ok n_RN 8 rfl rfl 5 (by decide) kw_117 rfl rfl (rfl) (rfl) (Nat.le_of_ble_eq_true rfl) (ws' := tm_wC ad cI cL cZ (tm_sf u 0 (nI f))) rfl d_RN_branch_22 (fun H locs h => ?_)
  refine lv_aload_n hx hb d_RN_branch_25 rfl (lv_at hl 2 rfl) ?_
  refine tm_get X h uw_RN 8 rfl rfl 1 (by decide) kw_112 rfl rfl d_RN_branch_26 ?_
  refine lv_iload_n hx hb d_RN_branch_29 rfl (lv_at hl 3 rfl) ?_
  refine tm_cIf X h (tm_rSN X h (c_RW_ofFrame l D cI cL cZ ad (f) (tm_sf u 0 (nI f))  _) ks_RW_ofFrame kw_395 rfl rfl ⟨by decide, by decide⟩ rfl hl.1 rfl (Nat.le_of_ble_eq_true rfl) d_RN_branch_30 ⟨by decide, by decide⟩) (fun H locs h => ?_)
  refine lv_iconst (v := 0) hx hb d_RN_branch_33 (by decide) ?_
  refine tm_cVf X h (tm_rVN (q0 := 11) X h (c_RW_copy l D cI cL cZ ad (1 + f) (0) (tm_sf u 0 (nI f)) (by omega) (by decide) _) ki_RW_copy kw_495 rfl rfl rfl rfl rfl ⟨by decide, by decide⟩ rfl hl.1 rfl (Nat.le_of_ble_eq_true rfl) d_RN_branch_34 ⟨by decide, by decide⟩) (fun H locs h => ?_)
  refine lv_aload_n hx hb d_RN_branch_37 rfl (lv_at hl 2 rfl) ?_
  refine lv_iload_n hx hb d_RN_branch_38 rfl (lv_at hl 1 rfl) ?_
  refine lv_if_eq hx hb d_RN_branch_39 (tgt := 54) rfl (fun h39t => ?_) (fun h39f => ?_)
  · refine lv_aload_n hx hb d_RN_branch_54 rfl (lv_at hl 2 rfl) ?_
    refine tm_get X h uw_RN 8 rfl rfl 0 (by decide) kw_111 rfl rfl d_RN_branch_55 ?_
    refine tm_getN X h uw_EX 1 rfl rfl 3 (by decide) kw_42 rfl rfl d_RN_branch_58 ?_
    refine lv_iload_n hx hb d_RN_branch_61 rfl (lv_at hl 0 rfl) ?_
    refine tm_iald X h 5 0 rfl rfl (e) (he) (rfl) (by decide) d_RN_branch_62 ?_
    refine tm_top (y := nI ((u.2.1 3 e).toNatClampNeg)) ((tm_vin h3 (by decide)).2) ?_
    refine tm_cVf X h (tm_rV (q0 := 8) X h (c_RN_evaluateTrimmed l D cI cL cZ ad ((u.2.1 3 e).toNatClampNeg) (cs_copy (tm_sf u 0 (nI f)) (1 + f) (0)) ((tm_vin h3 (by decide)).1) _) ki_RN_evaluateTrimmed kw_350 rfl rfl rfl rfl rfl ⟨by decide, by decide⟩ rfl hl.1 rfl (Nat.le_of_ble_eq_true rfl) d_RN_branch_63 ⟨by decide, by decide⟩) (fun H locs h => ?_)
    exact tx_vret (w := tm_wC ad cI cL cZ) (u := (cs_ev (cs_copy (tm_sf u 0 (nI f)) (1 + f) (0)) ((u.2.1 3 e).toNatClampNeg))) X h (⟨congrArg (cs_brx u f) (if_pos h39t).symm, f9⟩) d_RN_branch_66
  · refine lv_aload_n hx hb d_RN_branch_42 rfl (lv_at hl 2 rfl) ?_
    refine tm_get X h uw_RN 8 rfl rfl 0 (by decide) kw_111 rfl rfl d_RN_branch_43 ?_
    refine tm_getN X h uw_EX 1 rfl rfl 2 (by decide) kw_39 rfl rfl d_RN_branch_46 ?_
    refine lv_iload_n hx hb d_RN_branch_49 rfl (lv_at hl 0 rfl) ?_
    refine tm_iald X h 4 0 rfl rfl (e) (he) (rfl) (by decide) d_RN_branch_50 ?_
    refine lv_goto hx hb d_RN_branch_51 (tgt := 63) rfl ?_
    refine tm_top (y := nI ((u.2.1 2 e).toNatClampNeg)) ((tm_vin h2 (by decide)).2) ?_
    refine tm_cVf X h (tm_rV (q0 := 8) X h (c_RN_evaluateTrimmed l D cI cL cZ ad ((u.2.1 2 e).toNatClampNeg) (cs_copy (tm_sf u 0 (nI f)) (1 + f) (0)) ((tm_vin h2 (by decide)).1) _) ki_RN_evaluateTrimmed kw_350 rfl rfl rfl rfl rfl ⟨by decide, by decide⟩ rfl hl.1 rfl (Nat.le_of_ble_eq_true rfl) d_RN_branch_63 ⟨by decide, by decide⟩) (fun H locs h => ?_)
    exact tx_vret (w := tm_wC ad cI cL cZ) (u := (cs_ev (cs_copy (tm_sf u 0 (nI f)) (1 + f) (0)) ((u.2.1 2 e).toNatClampNeg))) X h (⟨congrArg (cs_brx u f) (if_neg h39f).symm, f9⟩) d_RN_branch_66
theorem d_RN_apply_0 : decode b_RN_apply 0 = .ok (.aload_n 0, 1) := by decide +kernel
theorem d_RN_apply_1 : decode b_RN_apply 1 = .ok (.getfield 12, 3) := by decide +kernel
theorem d_RN_apply_4 : decode b_RN_apply 4 = .ok (.iload_n 1, 1) := by decide +kernel
theorem d_RN_apply_5 : decode b_RN_apply 5 = .ok (.invokestatic 163, 3) := by decide +kernel
theorem d_RN_apply_8 : decode b_RN_apply 8 = .ok (.invokevirtual 178, 3) := by decide +kernel
theorem d_RN_apply_11 : decode b_RN_apply 11 = .ok (.lstore_n 2, 1) := by decide +kernel
theorem d_RN_apply_12 : decode b_RN_apply 12 = .ok (.aload_n 0, 1) := by decide +kernel
theorem d_RN_apply_13 : decode b_RN_apply 13 = .ok (.lload_n 2, 1) := by decide +kernel
theorem d_RN_apply_14 : decode b_RN_apply 14 = .ok (.invokevirtual 196, 3) := by decide +kernel
theorem d_RN_apply_17 : decode b_RN_apply 17 = .ok (.istore 4, 2) := by decide +kernel
theorem d_RN_apply_19 : decode b_RN_apply 19 = .ok (.aload_n 0, 1) := by decide +kernel
theorem d_RN_apply_20 : decode b_RN_apply 20 = .ok (.getfield 12, 3) := by decide +kernel
theorem d_RN_apply_23 : decode b_RN_apply 23 = .ok (.iconst 0, 1) := by decide +kernel
theorem d_RN_apply_24 : decode b_RN_apply 24 = .ok (.invokevirtual 178, 3) := by decide +kernel
theorem d_RN_apply_27 : decode b_RN_apply 27 = .ok (.lstore 5, 2) := by decide +kernel
theorem d_RN_apply_29 : decode b_RN_apply 29 = .ok (.aload_n 0, 1) := by decide +kernel
theorem d_RN_apply_30 : decode b_RN_apply 30 = .ok (.getfield 21, 3) := by decide +kernel
theorem d_RN_apply_33 : decode b_RN_apply 33 = .ok (.getfield 147, 3) := by decide +kernel
theorem d_RN_apply_36 : decode b_RN_apply 36 = .ok (.iload 4, 2) := by decide +kernel
theorem d_RN_apply_38 : decode b_RN_apply 38 = .ok (.iaload, 1) := by decide +kernel
theorem d_RN_apply_39 : decode b_RN_apply 39 = .ok (.istore 7, 2) := by decide +kernel
theorem d_RN_apply_41 : decode b_RN_apply 41 = .ok (.aload_n 0, 1) := by decide +kernel
theorem d_RN_apply_42 : decode b_RN_apply 42 = .ok (.getfield 36, 3) := by decide +kernel
theorem d_RN_apply_45 : decode b_RN_apply 45 = .ok (.getfield 120, 3) := by decide +kernel
theorem d_RN_apply_48 : decode b_RN_apply 48 = .ok (.iload 7, 2) := by decide +kernel
theorem d_RN_apply_50 : decode b_RN_apply 50 = .ok (.iaload, 1) := by decide +kernel
theorem d_RN_apply_51 : decode b_RN_apply 51 = .ok (.istore 8, 2) := by decide +kernel
theorem d_RN_apply_53 : decode b_RN_apply 53 = .ok (.aload_n 0, 1) := by decide +kernel
theorem d_RN_apply_54 : decode b_RN_apply 54 = .ok (.iload_n 1, 1) := by decide +kernel
theorem d_RN_apply_55 : decode b_RN_apply 55 = .ok (.putfield 46, 3) := by decide +kernel
theorem d_RN_apply_58 : decode b_RN_apply 58 = .ok (.aload_n 0, 1) := by decide +kernel
theorem d_RN_apply_59 : decode b_RN_apply 59 = .ok (.getfield 12, 3) := by decide +kernel
theorem d_RN_apply_62 : decode b_RN_apply 62 = .ok (.iload 4, 2) := by decide +kernel
theorem d_RN_apply_64 : decode b_RN_apply 64 = .ok (.invokestatic 150, 3) := by decide +kernel
theorem d_RN_apply_67 : decode b_RN_apply 67 = .ok (.iconst 0, 1) := by decide +kernel
theorem d_RN_apply_68 : decode b_RN_apply 68 = .ok (.invokevirtual 181, 3) := by decide +kernel
theorem d_RN_apply_71 : decode b_RN_apply 71 = .ok (.aload_n 0, 1) := by decide +kernel
theorem d_RN_apply_72 : decode b_RN_apply 72 = .ok (.getfield 12, 3) := by decide +kernel
theorem d_RN_apply_75 : decode b_RN_apply 75 = .ok (.iconst 0, 1) := by decide +kernel
theorem d_RN_apply_76 : decode b_RN_apply 76 = .ok (.aload_n 0, 1) := by decide +kernel
theorem d_RN_apply_77 : decode b_RN_apply 77 = .ok (.getfield 36, 3) := by decide +kernel
theorem d_RN_apply_80 : decode b_RN_apply 80 = .ok (.getfield 109, 3) := by decide +kernel
theorem d_RN_apply_83 : decode b_RN_apply 83 = .ok (.iload 7, 2) := by decide +kernel
theorem d_RN_apply_85 : decode b_RN_apply 85 = .ok (.iaload, 1) := by decide +kernel
theorem d_RN_apply_86 : decode b_RN_apply 86 = .ok (.lload 5, 2) := by decide +kernel
theorem d_RN_apply_88 : decode b_RN_apply 88 = .ok (.invokevirtual 199, 3) := by decide +kernel
theorem d_RN_apply_91 : decode b_RN_apply 91 = .ok (.iload 8, 2) := by decide +kernel
theorem d_RN_apply_93 : decode b_RN_apply 93 = .ok (.iconst (-1), 1) := by decide +kernel
theorem d_RN_apply_94 : decode b_RN_apply 94 = .ok (.if_icmp .eq 14, 3) := by decide +kernel
theorem d_RN_apply_97 : decode b_RN_apply 97 = .ok (.aload_n 0, 1) := by decide +kernel
theorem d_RN_apply_98 : decode b_RN_apply 98 = .ok (.getfield 12, 3) := by decide +kernel
theorem d_RN_apply_101 : decode b_RN_apply 101 = .ok (.iconst 0, 1) := by decide +kernel
theorem d_RN_apply_102 : decode b_RN_apply 102 = .ok (.iload 8, 2) := by decide +kernel
theorem d_RN_apply_104 : decode b_RN_apply 104 = .ok (.lload_n 2, 1) := by decide +kernel
theorem d_RN_apply_105 : decode b_RN_apply 105 = .ok (.invokevirtual 199, 3) := by decide +kernel
theorem d_RN_apply_108 : decode b_RN_apply 108 = .ok (.aload_n 0, 1) := by decide +kernel
theorem d_RN_apply_109 : decode b_RN_apply 109 = .ok (.aload_n 0, 1) := by decide +kernel
theorem d_RN_apply_110 : decode b_RN_apply 110 = .ok (.getfield 36, 3) := by decide +kernel
theorem d_RN_apply_113 : decode b_RN_apply 113 = .ok (.getfield 96, 3) := by decide +kernel
theorem d_RN_apply_116 : decode b_RN_apply 116 = .ok (.iload 7, 2) := by decide +kernel
theorem d_RN_apply_118 : decode b_RN_apply 118 = .ok (.iaload, 1) := by decide +kernel
theorem d_RN_apply_119 : decode b_RN_apply 119 = .ok (.invokevirtual 56, 3) := by decide +kernel
theorem d_RN_apply_122 : decode b_RN_apply 122 = .ok (.return_, 1) := by decide +kernel
set_option maxHeartbeats 4000000 in
set_option maxRecDepth 100000 in
theorem c_RN_apply (l : Launch) (D : va_G) (cI cL cZ : ClassId) (ad : Nat → Nat) (hst : l.stackTraces = false) (f : Nat) (c : Nat) (g : Nat) (v : Nat) (b : Nat) (u : tm_SC) (hf : f < 120) (hA : ¬ u.2.2 ((1 + f) * 8 + 0) < 4294967296 → c < 120 ∧ g < 100 ∧ v < 8 ∧ b < 100 ∧ u.2.2 ((1 + f) * 8 + 0) = 4294967296 + (nI c).toInt64 ∧ u.2.1 9 c = nI g ∧ u.2.1 2 g = nI v ∧ u.2.1 1 g = nI b ∧ (¬ u.2.1 3 g = -1 → vp_in (u.2.1 3 g) 8)) : tx_V l y_RN_apply b_RN_apply 9 ({ frames := 7, cells := 1, slots := 6, locals := 112 } : Room) D (tm_yC cI cL cZ) (tm_wC ad cI cL cZ) [.ref (ad 8), .int (nI f)] u (fun u' => u' = (cs_apx u f c g v b) ∧ ¬ u.2.2 ((1 + f) * 8 + 0) < 4294967296) (fun E u' => E = "java/lang/UnsupportedOperationException" ∧ u' = tm_sf u 1 3 ∧ u.2.2 ((1 + f) * 8 + 0) < 4294967296) := by
  intro sz
  refine tx_of (Qc := fun A => va_Qv (fun u' => u' = (cs_apx u f c g v b) ∧ ¬ u.2.2 ((1 + f) * 8 + 0) < 4294967296) (fun u' t => tm_B D (tm_yC cI cL cZ) A (tm_wC ad cI cL cZ u') t) A) (XC := fun A => tx_X D (tm_yC cI cL cZ) (tm_wC ad cI cL cZ) A (fun E u' => E = "java/lang/UnsupportedOperationException" ∧ u' = tm_sf u 1 3 ∧ u.2.2 ((1 + f) * 8 + 0) < 4294967296)) (by decide) (Nat.le_of_ble_eq_true rfl) ?_ sz
  intro pg eg sg mg bel met cg A ls X h hl hE htab
  have hx := X.1.1
  have hb := X.1.2.1
  have hl : lv_has ls 9 [(0, .ref (ad 8)), (1, .int (nI f))] := hl
  refine lv_aload_n hx hb d_RN_apply_0 rfl (lv_at hl 0 rfl) ?_
  refine tm_get X h uw_RN 8 rfl rfl 1 (by decide) kw_112 rfl rfl d_RN_apply_1 ?_
  refine lv_iload_n hx hb d_RN_apply_4 rfl (lv_at hl 1 rfl) ?_
  refine tm_cIf X h (tm_rSN X h (c_RW_ofFrame l D cI cL cZ ad (f) u  _) ks_RW_ofFrame kw_395 rfl rfl ⟨by decide, by decide⟩ rfl hl.1 rfl (Nat.le_of_ble_eq_true rfl) d_RN_apply_5 ⟨by decide, by decide⟩) (fun H locs h => ?_)
  refine tm_cLf X h (tm_rVN (q0 := 11) X h (c_RW_single l D cI cL cZ ad (1 + f) u (by omega) _) ki_RW_single kw_490 rfl rfl rfl rfl rfl ⟨by decide, by decide⟩ rfl hl.1 rfl (Nat.le_of_ble_eq_true rfl) d_RN_apply_8 ⟨by decide, by decide⟩) (fun H locs h => ?_)
  refine lv_lstore_n hx hb d_RN_apply_11 rfl hl (by decide) rfl (fun ls (hl : lv_has ls 9 [(2, .long ((u.2.2 ((1 + f) * 8 + 0)))), (0, .ref (ad 8)), (1, .int (nI f))]) => ?_)
  refine lv_aload_n hx hb d_RN_apply_12 rfl (lv_at hl 1 rfl) ?_
  refine lv_lload_n hx hb d_RN_apply_13 rfl (lv_at hl 0 rfl) ?_
  refine tx_cIf X h (tx_rV (q0 := 8) X h hE (c_RN_needClosure l D cI cL cZ ad hst ((u.2.2 ((1 + f) * 8 + 0))) u  _) ki_RN_needClosure kw_531 rfl rfl rfl rfl rfl ⟨by decide, by decide⟩ rfl hl.1 rfl (Nat.le_of_ble_eq_true rfl) d_RN_apply_14 ⟨by decide, by decide⟩) (fun E9 u9 q9 ce9 H locs hx9 h e91 e92 e93 => tx_out (w := tm_wC ad cI cL cZ) (u := u9) X htab h e91 e92 e93 (hx9)) (fun H locs f14 h => ?_)
  refine tm_top (y := nI c) (by rw [(hA f14).2.2.2.2.1]; exact cs_sl_of (hA f14).1) ?_
  refine lv_istore hx hb d_RN_apply_17 hl (by decide) rfl (fun ls (hl : lv_has ls 9 [(4, .int (nI c)), (2, .long ((u.2.2 ((1 + f) * 8 + 0)))), (0, .ref (ad 8)), (1, .int (nI f))]) => ?_)
  refine lv_aload_n hx hb d_RN_apply_19 rfl (lv_at hl 2 rfl) ?_
  refine tm_get X h uw_RN 8 rfl rfl 1 (by decide) kw_112 rfl rfl d_RN_apply_20 ?_
  refine lv_iconst (v := 0) hx hb d_RN_apply_23 (by decide) ?_
  refine tm_cLf X h (tm_rVN (q0 := 11) X h (c_RW_single l D cI cL cZ ad (0) u (by decide) _) ki_RW_single kw_490 rfl rfl rfl rfl rfl ⟨by decide, by decide⟩ rfl hl.1 rfl (Nat.le_of_ble_eq_true rfl) d_RN_apply_24 ⟨by decide, by decide⟩) (fun H locs h => ?_)
  refine lv_lstore hx hb d_RN_apply_27 hl (by decide) rfl (fun ls (hl : lv_has ls 9 [(5, .long ((u.2.2 ((0) * 8 + 0)))), (4, .int (nI c)), (2, .long ((u.2.2 ((1 + f) * 8 + 0)))), (0, .ref (ad 8)), (1, .int (nI f))]) => ?_)
  refine lv_aload_n hx hb d_RN_apply_29 rfl (lv_at hl 3 rfl) ?_
  refine tm_get X h uw_RN 8 rfl rfl 2 (by decide) kw_113 rfl rfl d_RN_apply_30 ?_
  refine tm_getN X h uw_CL 14 rfl rfl 0 (by decide) kw_94 rfl rfl d_RN_apply_33 ?_
  refine lv_iload hx hb d_RN_apply_36 (lv_at hl 1 rfl) ?_
  refine tm_iald X h 15 0 rfl rfl (c) ((hA f14).1) (rfl) (by decide) d_RN_apply_38 ?_
  refine tm_top (y := nI g) ((hA f14).2.2.2.2.2.1) ?_
  refine lv_istore hx hb d_RN_apply_39 hl (by decide) rfl (fun ls (hl : lv_has ls 9 [(7, .int (nI g)), (5, .long ((u.2.2 ((0) * 8 + 0)))), (4, .int (nI c)), (2, .long ((u.2.2 ((1 + f) * 8 + 0)))), (0, .ref (ad 8)), (1, .int (nI f))]) => ?_)
  refine lv_aload_n hx hb d_RN_apply_41 rfl (lv_at hl 4 rfl) ?_
  refine tm_get X h uw_RN 8 rfl rfl 0 (by decide) kw_111 rfl rfl d_RN_apply_42 ?_
  refine tm_getN X h uw_EX 1 rfl rfl 3 (by decide) kw_42 rfl rfl d_RN_apply_45 ?_
  refine lv_iload hx hb d_RN_apply_48 (lv_at hl 0 rfl) ?_
  refine tm_iald X h 5 0 rfl rfl (g) ((hA f14).2.1) (rfl) (by decide) d_RN_apply_50 ?_
  refine tm_top (y := u.2.1 3 g) (rfl) ?_
  refine lv_istore hx hb d_RN_apply_51 hl (by decide) rfl (fun ls (hl : lv_has ls 9 [(8, .int (u.2.1 3 g)), (7, .int (nI g)), (5, .long ((u.2.2 ((0) * 8 + 0)))), (4, .int (nI c)), (2, .long ((u.2.2 ((1 + f) * 8 + 0)))), (0, .ref (ad 8)), (1, .int (nI f))]) => ?_)
  refine lv_aload_n hx hb d_RN_apply_53 rfl (lv_at hl 5 rfl) ?_
  refine lv_iload_n hx hb d_RN_apply_54 rfl (lv_at hl 6 rfl) ?_
  refine tm_put X h uw_RN t_RN t_RN_ok n_RN 8 rfl rfl 5 (by decide) kw_117 rfl rfl (rfl) (rfl) (Nat.le_of_ble_eq_true rfl) (ws' := tm_wC ad cI cL cZ (tm_sf u 0 (nI f))) rfl d_RN_apply_55 (fun H locs h => ?_)
  refine lv_aload_n hx hb d_RN_apply_58 rfl (lv_at hl 5 rfl) ?_
  refine tm_get X h uw_RN 8 rfl rfl 1 (by decide) kw_112 rfl rfl d_RN_apply_59 ?_
  refine lv_iload hx hb d_RN_apply_62 (lv_at hl 3 rfl) ?_
  refine tm_cIf X h (tm_rSN X h (c_RW_ofClosure l D cI cL cZ ad (c) (tm_sf u 0 (nI f))  _) ks_RW_ofClosure kw_398 rfl rfl ⟨by decide, by decide⟩ rfl hl.1 rfl (Nat.le_of_ble_eq_true rfl) d_RN_apply_64 ⟨by decide, by decide⟩) (fun H locs h => ?_)
  refine lv_iconst (v := 0) hx hb d_RN_apply_67 (by decide) ?_
  refine tm_cVf X h (tm_rVN (q0 := 11) X h (c_RW_copy l D cI cL cZ ad (121 + c) (0) (tm_sf u 0 (nI f)) (by have := (hA f14).1; omega) (by decide) _) ki_RW_copy kw_495 rfl rfl rfl rfl rfl ⟨by decide, by decide⟩ rfl hl.1 rfl (Nat.le_of_ble_eq_true rfl) d_RN_apply_68 ⟨by decide, by decide⟩) (fun H locs h => ?_)
  refine lv_aload_n hx hb d_RN_apply_71 rfl (lv_at hl 5 rfl) ?_
  refine tm_get X h uw_RN 8 rfl rfl 1 (by decide) kw_112 rfl rfl d_RN_apply_72 ?_
  refine lv_iconst (v := 0) hx hb d_RN_apply_75 (by decide) ?_
  refine lv_aload_n hx hb d_RN_apply_76 rfl (lv_at hl 5 rfl) ?_
  refine tm_get X h uw_RN 8 rfl rfl 0 (by decide) kw_111 rfl rfl d_RN_apply_77 ?_
  refine tm_getN X h uw_EX 1 rfl rfl 2 (by decide) kw_39 rfl rfl d_RN_apply_80 ?_
  refine lv_iload hx hb d_RN_apply_83 (lv_at hl 1 rfl) ?_
  refine tm_iald X h 4 0 rfl rfl (g) ((hA f14).2.1) (rfl) (by decide) d_RN_apply_85 ?_
  refine tm_top (y := nI v) ((hA f14).2.2.2.2.2.2.1) ?_
  refine lv_lload hx hb d_RN_apply_86 (lv_at hl 2 rfl) ?_
  refine tm_cVf X h (tm_rVN (q0 := 11) X h (c_RW_give l D cI cL cZ ad (0) (v) ((u.2.2 ((0) * 8 + 0))) (cs_copy (tm_sf u 0 (nI f)) (121 + c) (0)) (by decide) ((hA f14).2.2.1) _) ki_RW_give kw_536 rfl rfl rfl rfl rfl ⟨by decide, by decide⟩ rfl hl.1 rfl (Nat.le_of_ble_eq_true rfl) d_RN_apply_88 ⟨by decide, by decide⟩) (fun H locs h => ?_)
  refine lv_iload hx hb d_RN_apply_91 (lv_at hl 0 rfl) ?_
  refine lv_iconst (v := -1) hx hb d_RN_apply_93 (by decide) ?_
  refine lv_icmp_eq hx hb d_RN_apply_94 (tgt := 108) rfl (fun h94t => ?_) (fun h94f => ?_)
  · refine lv_aload_n hx hb d_RN_apply_108 rfl (lv_at hl 5 rfl) ?_
    refine lv_aload_n hx hb d_RN_apply_109 rfl (lv_at hl 5 rfl) ?_
    refine tm_get X h uw_RN 8 rfl rfl 0 (by decide) kw_111 rfl rfl d_RN_apply_110 ?_
    refine tm_getN X h uw_EX 1 rfl rfl 1 (by decide) kw_36 rfl rfl d_RN_apply_113 ?_
    refine lv_iload hx hb d_RN_apply_116 (lv_at hl 1 rfl) ?_
    refine tm_iald X h 3 0 rfl rfl (g) ((hA f14).2.1) (rfl) (by decide) d_RN_apply_118 ?_
    refine tm_top (y := nI b) ((hA f14).2.2.2.2.2.2.2.1) ?_
    refine tm_cVf X h (tm_rV (q0 := 8) X h (c_RN_evaluateTrimmed l D cI cL cZ ad (b) (cs_give (cs_copy (tm_sf u 0 (nI f)) (121 + c) (0)) (0) (v) ((u.2.2 ((0) * 8 + 0)))) ((hA f14).2.2.2.1) _) ki_RN_evaluateTrimmed kw_350 rfl rfl rfl rfl rfl ⟨by decide, by decide⟩ rfl hl.1 rfl (Nat.le_of_ble_eq_true rfl) d_RN_apply_119 ⟨by decide, by decide⟩) (fun H locs h => ?_)
    exact tx_vret (w := tm_wC ad cI cL cZ) (u := (cs_ev (cs_give (cs_copy (tm_sf u 0 (nI f)) (121 + c) (0)) (0) (v) ((u.2.2 ((0) * 8 + 0)))) (b))) X h (⟨by unfold cs_apx; rw [if_pos h94t]; rfl, f14⟩) d_RN_apply_122
  · refine lv_aload_n hx hb d_RN_apply_97 rfl (lv_at hl 5 rfl) ?_
    refine tm_get X h uw_RN 8 rfl rfl 1 (by decide) kw_112 rfl rfl d_RN_apply_98 ?_
    refine lv_iconst (v := 0) hx hb d_RN_apply_101 (by decide) ?_
    refine lv_iload hx hb d_RN_apply_102 (lv_at hl 0 rfl) ?_
    refine tm_top (y := nI ((u.2.1 3 g).toNatClampNeg)) ((tm_vin ((hA f14).2.2.2.2.2.2.2.2 h94f) (by decide)).2) ?_
    refine lv_lload_n hx hb d_RN_apply_104 rfl (lv_at hl 4 rfl) ?_
    refine tm_cVf X h (tm_rVN (q0 := 11) X h (c_RW_give l D cI cL cZ ad (0) ((u.2.1 3 g).toNatClampNeg) ((u.2.2 ((1 + f) * 8 + 0))) (cs_give (cs_copy (tm_sf u 0 (nI f)) (121 + c) (0)) (0) (v) ((u.2.2 ((0) * 8 + 0)))) (by decide) ((tm_vin ((hA f14).2.2.2.2.2.2.2.2 h94f) (by decide)).1) _) ki_RW_give kw_536 rfl rfl rfl rfl rfl ⟨by decide, by decide⟩ rfl hl.1 rfl (Nat.le_of_ble_eq_true rfl) d_RN_apply_105 ⟨by decide, by decide⟩) (fun H locs h => ?_)
    refine lv_aload_n hx hb d_RN_apply_108 rfl (lv_at hl 5 rfl) ?_
    refine lv_aload_n hx hb d_RN_apply_109 rfl (lv_at hl 5 rfl) ?_
    refine tm_get X h uw_RN 8 rfl rfl 0 (by decide) kw_111 rfl rfl d_RN_apply_110 ?_
    refine tm_getN X h uw_EX 1 rfl rfl 1 (by decide) kw_36 rfl rfl d_RN_apply_113 ?_
    refine lv_iload hx hb d_RN_apply_116 (lv_at hl 1 rfl) ?_
    refine tm_iald X h 3 0 rfl rfl (g) ((hA f14).2.1) (rfl) (by decide) d_RN_apply_118 ?_
    refine tm_top (y := nI b) ((hA f14).2.2.2.2.2.2.2.1) ?_
    refine tm_cVf X h (tm_rV (q0 := 8) X h (c_RN_evaluateTrimmed l D cI cL cZ ad (b) (cs_give (cs_give (cs_copy (tm_sf u 0 (nI f)) (121 + c) (0)) (0) (v) ((u.2.2 ((0) * 8 + 0)))) (0) ((u.2.1 3 g).toNatClampNeg) ((u.2.2 ((1 + f) * 8 + 0)))) ((hA f14).2.2.2.1) _) ki_RN_evaluateTrimmed kw_350 rfl rfl rfl rfl rfl ⟨by decide, by decide⟩ rfl hl.1 rfl (Nat.le_of_ble_eq_true rfl) d_RN_apply_119 ⟨by decide, by decide⟩) (fun H locs h => ?_)
    exact tx_vret (w := tm_wC ad cI cL cZ) (u := (cs_ev (cs_give (cs_give (cs_copy (tm_sf u 0 (nI f)) (121 + c) (0)) (0) (v) ((u.2.2 ((0) * 8 + 0)))) (0) ((u.2.1 3 g).toNatClampNeg) ((u.2.2 ((1 + f) * 8 + 0)))) (b))) X h (⟨by unfold cs_apx; rw [if_neg h94f]; rfl, f14⟩) d_RN_apply_122
theorem d_RN_returnToFrame_0 : decode b_RN_returnToFrame 0 = .ok (.aload_n 0, 1) := by decide +kernel
theorem d_RN_returnToFrame_1 : decode b_RN_returnToFrame 1 = .ok (.getfield 46, 3) := by decide +kernel
theorem d_RN_returnToFrame_4 : decode b_RN_returnToFrame 4 = .ok (.iconst 1, 1) := by decide +kernel
theorem d_RN_returnToFrame_5 : decode b_RN_returnToFrame 5 = .ok (.isub, 1) := by decide +kernel
theorem d_RN_returnToFrame_6 : decode b_RN_returnToFrame 6 = .ok (.istore_n 1, 1) := by decide +kernel
theorem d_RN_returnToFrame_7 : decode b_RN_returnToFrame 7 = .ok (.aload_n 0, 1) := by decide +kernel
theorem d_RN_returnToFrame_8 : decode b_RN_returnToFrame 8 = .ok (.getfield 25, 3) := by decide +kernel
theorem d_RN_returnToFrame_11 : decode b_RN_returnToFrame 11 = .ok (.iload_n 1, 1) := by decide +kernel
theorem d_RN_returnToFrame_12 : decode b_RN_returnToFrame 12 = .ok (.iaload, 1) := by decide +kernel
theorem d_RN_returnToFrame_13 : decode b_RN_returnToFrame 13 = .ok (.tableswitch 69 0 4 #[35, 69, 44, 53, 61], 35) := by decide +kernel
theorem d_RN_returnToFrame_48 : decode b_RN_returnToFrame 48 = .ok (.aload_n 0, 1) := by decide +kernel
theorem d_RN_returnToFrame_49 : decode b_RN_returnToFrame 49 = .ok (.iload_n 1, 1) := by decide +kernel
theorem d_RN_returnToFrame_50 : decode b_RN_returnToFrame 50 = .ok (.iconst 1, 1) := by decide +kernel
theorem d_RN_returnToFrame_51 : decode b_RN_returnToFrame 51 = .ok (.invokevirtual 166, 3) := by decide +kernel
theorem d_RN_returnToFrame_54 : decode b_RN_returnToFrame 54 = .ok (.goto 33, 3) := by decide +kernel
theorem d_RN_returnToFrame_57 : decode b_RN_returnToFrame 57 = .ok (.aload_n 0, 1) := by decide +kernel
theorem d_RN_returnToFrame_58 : decode b_RN_returnToFrame 58 = .ok (.iload_n 1, 1) := by decide +kernel
theorem d_RN_returnToFrame_59 : decode b_RN_returnToFrame 59 = .ok (.iconst 3, 1) := by decide +kernel
theorem d_RN_returnToFrame_60 : decode b_RN_returnToFrame 60 = .ok (.invokevirtual 166, 3) := by decide +kernel
theorem d_RN_returnToFrame_63 : decode b_RN_returnToFrame 63 = .ok (.goto 24, 3) := by decide +kernel
theorem d_RN_returnToFrame_66 : decode b_RN_returnToFrame 66 = .ok (.aload_n 0, 1) := by decide +kernel
theorem d_RN_returnToFrame_67 : decode b_RN_returnToFrame 67 = .ok (.iload_n 1, 1) := by decide +kernel
theorem d_RN_returnToFrame_68 : decode b_RN_returnToFrame 68 = .ok (.invokevirtual 169, 3) := by decide +kernel
theorem d_RN_returnToFrame_71 : decode b_RN_returnToFrame 71 = .ok (.goto 16, 3) := by decide +kernel
theorem d_RN_returnToFrame_74 : decode b_RN_returnToFrame 74 = .ok (.aload_n 0, 1) := by decide +kernel
theorem d_RN_returnToFrame_75 : decode b_RN_returnToFrame 75 = .ok (.iload_n 1, 1) := by decide +kernel
theorem d_RN_returnToFrame_76 : decode b_RN_returnToFrame 76 = .ok (.invokevirtual 172, 3) := by decide +kernel
theorem d_RN_returnToFrame_79 : decode b_RN_returnToFrame 79 = .ok (.goto 8, 3) := by decide +kernel
theorem d_RN_returnToFrame_82 : decode b_RN_returnToFrame 82 = .ok (.aload_n 0, 1) := by decide +kernel
theorem d_RN_returnToFrame_83 : decode b_RN_returnToFrame 83 = .ok (.iload_n 1, 1) := by decide +kernel
theorem d_RN_returnToFrame_84 : decode b_RN_returnToFrame 84 = .ok (.invokevirtual 175, 3) := by decide +kernel
theorem d_RN_returnToFrame_87 : decode b_RN_returnToFrame 87 = .ok (.return_, 1) := by decide +kernel
set_option maxHeartbeats 4000000 in
set_option maxRecDepth 100000 in
theorem c_RN_returnToFrame (l : Launch) (D : va_G) (cI cL cZ : ClassId) (ad : Nat → Nat) (hst : l.stackTraces = false) (f : Nat) (e : Nat) (c : Nat) (g : Nat) (v : Nat) (b : Nat) (u : tm_SC) (hB : cs_BI u f e c g v b) : tx_V l y_RN_returnToFrame b_RN_returnToFrame 2 ({ frames := 8, cells := 1, slots := 6, locals := 140 } : Room) D (tm_yC cI cL cZ) (tm_wC ad cI cL cZ) [.ref (ad 8)] u (fun u' => cs_bkP u f e c g v b u') (fun E u' => cs_bkX u f E u') := by
  intro sz
  refine tx_of (Qc := fun A => va_Qv (fun u' => cs_bkP u f e c g v b u') (fun u' t => tm_B D (tm_yC cI cL cZ) A (tm_wC ad cI cL cZ u') t) A) (XC := fun A => tx_X D (tm_yC cI cL cZ) (tm_wC ad cI cL cZ) A (fun E u' => cs_bkX u f E u')) (by decide) (Nat.le_of_ble_eq_true rfl) ?_ sz
  intro pg eg sg mg bel met cg A ls X h hl hE htab
  have hx := X.1.1
  have hb := X.1.2.1
  have hl : lv_has ls 2 [(0, .ref (ad 8))] := hl
  refine lv_aload_n hx hb d_RN_returnToFrame_0 rfl (lv_at hl 0 rfl) ?_
  refine tm_get X h uw_RN 8 rfl rfl 5 (by decide) kw_117 rfl rfl d_RN_returnToFrame_1 ?_
  refine lv_iconst (v := 1) hx hb d_RN_returnToFrame_4 (by decide) ?_
  refine lv_isub hx hb d_RN_returnToFrame_5 ?_
  refine tm_top (y := nI f) (by rw [hB.1]; exact nI_pred f) ?_
  refine lv_istore_n hx hb d_RN_returnToFrame_6 rfl hl (by decide) rfl (fun ls (hl : lv_has ls 2 [(1, .int (nI f)), (0, .ref (ad 8))]) => ?_)
  have hf2 := hB.2.1
  refine lv_aload_n hx hb d_RN_returnToFrame_7 rfl (lv_at hl 1 rfl) ?_
  refine tm_get X h uw_RN 8 rfl rfl 3 (by decide) kw_115 rfl rfl d_RN_returnToFrame_8 ?_
  refine lv_iload_n hx hb d_RN_returnToFrame_11 rfl (lv_at hl 0 rfl) ?_
  refine tm_iald X h 9 0 rfl rfl (f) (by omega) (rfl) (by decide) d_RN_returnToFrame_12 ?_
  by_cases q13_0 : ((u).2.1 6 (f)) = 0
  · refine tm_sw 0 q13_0 hx hb d_RN_returnToFrame_13 (tgt := 48) (by decide) (by decide) rfl rfl ?_
    refine lv_aload_n hx hb d_RN_returnToFrame_48 rfl (lv_at hl 1 rfl) ?_
    refine lv_iload_n hx hb d_RN_returnToFrame_49 rfl (lv_at hl 0 rfl) ?_
    refine lv_iconst (v := 1) hx hb d_RN_returnToFrame_50 (by decide) ?_
    refine tm_cVf X h (tm_rV (q0 := 8) X h (c_RN_evaluateSecond l D cI cL cZ ad (f) (e) ((u.2.1 2 e).toNatClampNeg) (1) u (hf2) (hB.2.2.2.2.1) ((tm_vin (hB.2.2.2.2.2.1 (by rw [q13_0]; decide) (by rw [q13_0]; decide)) (by decide)).1) (hB.2.2.2.1) ((tm_vin (hB.2.2.2.2.2.1 (by rw [q13_0]; decide) (by rw [q13_0]; decide)) (by decide)).2) _) ki_RN_evaluateSecond kw_486 rfl rfl rfl rfl rfl ⟨by decide, by decide⟩ rfl hl.1 rfl (Nat.le_of_ble_eq_true rfl) d_RN_returnToFrame_51 ⟨by decide, by decide⟩) (fun H locs h => ?_)
    refine lv_goto hx hb d_RN_returnToFrame_54 (tgt := 87) rfl ?_
    exact tx_vret (w := tm_wC ad cI cL cZ) (u := (cs_snd u (f) ((u.2.1 2 e).toNatClampNeg) (1))) X h (Or.inl ⟨q13_0, rfl⟩) d_RN_returnToFrame_87
  by_cases q13_1 : ((u).2.1 6 (f)) = 1
  · refine tm_sw 1 q13_1 hx hb d_RN_returnToFrame_13 (tgt := 82) (by decide) (by decide) rfl rfl ?_
    refine lv_aload_n hx hb d_RN_returnToFrame_82 rfl (lv_at hl 1 rfl) ?_
    refine lv_iload_n hx hb d_RN_returnToFrame_83 rfl (lv_at hl 0 rfl) ?_
    refine tx_cVf X h (tx_rV (q0 := 8) X h hE (c_RN_apply l D cI cL cZ ad hst (f) (c) (g) (v) (b) u (hf2) (hB.2.2.2.2.2.2.2 q13_1) _) ki_RN_apply kw_527 rfl rfl rfl rfl rfl ⟨by decide, by decide⟩ rfl hl.1 rfl (Nat.le_of_ble_eq_true rfl) d_RN_returnToFrame_84 ⟨by decide, by decide⟩) (fun E9 u9 q9 ce9 H locs hx9 h e91 e92 e93 => tx_out (w := tm_wC ad cI cL cZ) (u := u9) X htab h e91 e92 e93 (⟨hx9.1, hx9.2.1, Or.inr (Or.inr ⟨q13_1, hx9.2.2⟩)⟩)) (fun H locs f84 h => ?_)
    exact tx_vret (w := tm_wC ad cI cL cZ) (u := (cs_apx u (f) (c) (g) (v) (b))) X h (Or.inr (Or.inr (Or.inr (Or.inr ⟨q13_1, f84, rfl⟩)))) d_RN_returnToFrame_87
  by_cases q13_2 : ((u).2.1 6 (f)) = 2
  · refine tm_sw 2 q13_2 hx hb d_RN_returnToFrame_13 (tgt := 57) (by decide) (by decide) rfl rfl ?_
    refine lv_aload_n hx hb d_RN_returnToFrame_57 rfl (lv_at hl 1 rfl) ?_
    refine lv_iload_n hx hb d_RN_returnToFrame_58 rfl (lv_at hl 0 rfl) ?_
    refine lv_iconst (v := 3) hx hb d_RN_returnToFrame_59 (by decide) ?_
    refine tm_cVf X h (tm_rV (q0 := 8) X h (c_RN_evaluateSecond l D cI cL cZ ad (f) (e) ((u.2.1 2 e).toNatClampNeg) (3) u (hf2) (hB.2.2.2.2.1) ((tm_vin (hB.2.2.2.2.2.1 (by rw [q13_2]; decide) (by rw [q13_2]; decide)) (by decide)).1) (hB.2.2.2.1) ((tm_vin (hB.2.2.2.2.2.1 (by rw [q13_2]; decide) (by rw [q13_2]; decide)) (by decide)).2) _) ki_RN_evaluateSecond kw_486 rfl rfl rfl rfl rfl ⟨by decide, by decide⟩ rfl hl.1 rfl (Nat.le_of_ble_eq_true rfl) d_RN_returnToFrame_60 ⟨by decide, by decide⟩) (fun H locs h => ?_)
    refine lv_goto hx hb d_RN_returnToFrame_63 (tgt := 87) rfl ?_
    exact tx_vret (w := tm_wC ad cI cL cZ) (u := (cs_snd u (f) ((u.2.1 2 e).toNatClampNeg) (3))) X h (Or.inr (Or.inl ⟨q13_2, rfl⟩)) d_RN_returnToFrame_87
  by_cases q13_3 : ((u).2.1 6 (f)) = 3
  · refine tm_sw 3 q13_3 hx hb d_RN_returnToFrame_13 (tgt := 66) (by decide) (by decide) rfl rfl ?_
    refine lv_aload_n hx hb d_RN_returnToFrame_66 rfl (lv_at hl 1 rfl) ?_
    refine lv_iload_n hx hb d_RN_returnToFrame_67 rfl (lv_at hl 0 rfl) ?_
    refine tx_cVf X h (tx_rV (q0 := 8) X h hE (c_RN_operate l D cI cL cZ ad hst (f) (e) u (hf2) (hB.2.2.2.2.1) (hB.2.2.2.1) _) ki_RN_operate kw_496 rfl rfl rfl rfl rfl ⟨by decide, by decide⟩ rfl hl.1 rfl (Nat.le_of_ble_eq_true rfl) d_RN_returnToFrame_68 ⟨by decide, by decide⟩) (fun E9 u9 q9 ce9 H locs hx9 h e91 e92 e93 => tx_out (w := tm_wC ad cI cL cZ) (u := u9) X htab h e91 e92 e93 (⟨hx9.1, hx9.2.1, Or.inl ⟨q13_3, hx9.2.2⟩⟩)) (fun H locs f68 h => ?_)
    refine lv_goto hx hb d_RN_returnToFrame_71 (tgt := 87) rfl ?_
    exact tx_vret (w := tm_wC ad cI cL cZ) (u := (cs_opx u (f) (e))) X h (Or.inr (Or.inr (Or.inl ⟨q13_3, f68.1, f68.2, rfl⟩))) d_RN_returnToFrame_87
  by_cases q13_4 : ((u).2.1 6 (f)) = 4
  · refine tm_sw 4 q13_4 hx hb d_RN_returnToFrame_13 (tgt := 74) (by decide) (by decide) rfl rfl ?_
    refine lv_aload_n hx hb d_RN_returnToFrame_74 rfl (lv_at hl 1 rfl) ?_
    refine lv_iload_n hx hb d_RN_returnToFrame_75 rfl (lv_at hl 0 rfl) ?_
    refine tx_cVf X h (tx_rV (q0 := 8) X h hE (c_RN_branch l D cI cL cZ ad hst (f) (e) u (hf2) (hB.2.2.2.2.1) (hB.2.2.2.1) (hB.2.2.2.2.2.1 (by rw [q13_4]; decide) (by rw [q13_4]; decide)) (hB.2.2.2.2.2.2.1 q13_4) _) ki_RN_branch kw_523 rfl rfl rfl rfl rfl ⟨by decide, by decide⟩ rfl hl.1 rfl (Nat.le_of_ble_eq_true rfl) d_RN_returnToFrame_76 ⟨by decide, by decide⟩) (fun E9 u9 q9 ce9 H locs hx9 h e91 e92 e93 => tx_out (w := tm_wC ad cI cL cZ) (u := u9) X htab h e91 e92 e93 (⟨hx9.1, hx9.2.1, Or.inr (Or.inl ⟨q13_4, hx9.2.2⟩)⟩)) (fun H locs f76 h => ?_)
    refine lv_goto hx hb d_RN_returnToFrame_79 (tgt := 87) rfl ?_
    exact tx_vret (w := tm_wC ad cI cL cZ) (u := (cs_brx u (f) (if (u.2.2 (0 * 8 + 0)).toInt32 = 0 then (u.2.1 3 e).toNatClampNeg else (u.2.1 2 e).toNatClampNeg))) X h (Or.inr (Or.inr (Or.inr (Or.inl ⟨q13_4, f76, rfl⟩)))) d_RN_returnToFrame_87
  refine lv_tableOut hx hb d_RN_returnToFrame_13 (tm_swo5 q13_0 q13_1 q13_2 q13_3 q13_4) (tgt := 82) rfl ?_
  exact absurd hB.2.2.1 (fun q => q.elim q13_0 (fun q => q.elim q13_1 (fun q => q.elim q13_2 (fun q => q.elim q13_3 q13_4))))
