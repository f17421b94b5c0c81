theorem kw_579 : (Jvm.Cond.fieldLink "TrimmedMachineModel" (28 : Nat) "TrimmedMachineModel" "has" "[I") ∈ tm_wa := tm_tb (List.mem_append_right _ (List.mem_append_right _ (List.mem_append_left _ (List.mem_of_getElem? (i := 99) (by decide +kernel))))) rfl
theorem kw_580 : (Jvm.Cond.fieldLink "TrimmedMachineModel" (31 : Nat) "TrimmedMachineModel" "value" "[I") ∈ tm_wa := tm_tb (List.mem_append_right _ (List.mem_append_right _ (List.mem_append_left _ (List.mem_of_getElem? (i := 100) (by decide +kernel))))) rfl
theorem kw_581 : (Jvm.Cond.fieldLink "TrimmedMachineModel" (34 : Nat) "TrimmedMachineModel" "closed" "[Z") ∈ tm_wa := tm_tb (List.mem_append_right _ (List.mem_append_right _ (List.mem_append_left _ (List.mem_of_getElem? (i := 101) (by decide +kernel))))) rfl
theorem kw_583 : (Jvm.Cond.fieldLink "TrimmedMachineModel" (41 : Nat) "TrimmedMachineModel" "reached" "[Z") ∈ tm_wa := tm_tb (List.mem_append_right _ (List.mem_append_right _ (List.mem_append_left _ (List.mem_of_getElem? (i := 103) (by decide +kernel))))) rfl
theorem kw_584 : (Jvm.Cond.fieldLink "TrimmedMachineModel" (44 : Nat) "TrimmedMachineModel" "open" "[I") ∈ tm_wa := tm_tb (List.mem_append_right _ (List.mem_append_right _ (List.mem_append_left _ (List.mem_of_getElem? (i := 104) (by decide +kernel))))) rfl
theorem kw_590 : (Jvm.Cond.fieldLink "TrimmedMachineModel" (91 : Nat) "TrimmedMachineModel" "closures" "I") ∈ tm_wa := tm_tb (List.mem_append_right _ (List.mem_append_right _ (List.mem_append_left _ (List.mem_of_getElem? (i := 110) (by decide +kernel))))) rfl
theorem kw_729 : (Jvm.Cond.static ({ cls := "TrimmedMachineModel", name := "ones", desc := "(I)I" } : Jvm.MethodName)) ∈ tm_wa := tm_tb (List.mem_append_right _ (List.mem_append_right _ (List.mem_append_right _ (List.mem_of_getElem? (i := 9) (by decide +kernel))))) rfl
theorem kw_730 : (Jvm.Cond.code ({ cls := "TrimmedMachineModel", name := "ones", desc := "(I)I" } : Jvm.MethodName) prog_8_method_18_code (3 : Nat) (Option.some Jvm.ClassFile.FieldType.int)) ∈ tm_wa := tm_tb (List.mem_append_right _ (List.mem_append_right _ (List.mem_append_right _ (List.mem_of_getElem? (i := 10) (rfl))))) rfl
theorem kw_731 : (Jvm.Cond.methodLink "TrimmedMachineModel" (94 : Nat) ({ cls := "TrimmedMachineModel", name := "note", desc := "(II)I" } : Jvm.MethodName)) ∈ tm_wa := tm_tb (List.mem_append_right _ (List.mem_append_right _ (List.mem_append_right _ (List.mem_of_getElem? (i := 11) (by decide +kernel))))) rfl
theorem kw_733 : (Jvm.Cond.instanceMethod ({ cls := "TrimmedMachineModel", name := "note", desc := "(II)I" } : Jvm.MethodName)) ∈ tm_wa := tm_tb (List.mem_append_right _ (List.mem_append_right _ (List.mem_append_right _ (List.mem_of_getElem? (i := 13) (by decide +kernel))))) rfl
theorem kw_734 : (Jvm.Cond.code ({ cls := "TrimmedMachineModel", name := "note", desc := "(II)I" } : Jvm.MethodName) prog_8_method_19_code (3 : Nat) (Option.some Jvm.ClassFile.FieldType.int)) ∈ tm_wa := tm_tb (List.mem_append_right _ (List.mem_append_right _ (List.mem_append_right _ (List.mem_of_getElem? (i := 14) (rfl))))) rfl
theorem kw_737 : (Jvm.Cond.instanceMethod ({ cls := "TrimmedMachineModel", name := "noteAll", desc := "(II)I" } : Jvm.MethodName)) ∈ tm_wa := tm_tb (List.mem_append_right _ (List.mem_append_right _ (List.mem_append_right _ (List.mem_of_getElem? (i := 17) (by decide +kernel))))) rfl
theorem kw_738 : (Jvm.Cond.code ({ cls := "TrimmedMachineModel", name := "noteAll", desc := "(II)I" } : Jvm.MethodName) prog_8_method_20_code (5 : Nat) (Option.some Jvm.ClassFile.FieldType.int)) ∈ tm_wa := tm_tb (List.mem_append_right _ (List.mem_append_right _ (List.mem_append_right _ (List.mem_of_getElem? (i := 18) (rfl))))) rfl
theorem kw_740 : (Jvm.Cond.static ({ cls := "TrimmedMachineModel", name := "holdsValue", desc := "(I)Z" } : Jvm.MethodName)) ∈ tm_wa := tm_tb (List.mem_append_right _ (List.mem_append_right _ (List.mem_append_right _ (List.mem_of_getElem? (i := 20) (by decide +kernel))))) rfl
theorem kw_741 : (Jvm.Cond.code ({ cls := "TrimmedMachineModel", name := "holdsValue", desc := "(I)Z" } : Jvm.MethodName) prog_8_method_21_code (1 : Nat) (Option.some Jvm.ClassFile.FieldType.boolean)) ∈ tm_wa := tm_tb (List.mem_append_right _ (List.mem_append_right _ (List.mem_append_right _ (List.mem_of_getElem? (i := 21) (rfl))))) rfl
theorem kw_760 : (Jvm.Cond.instanceMethod ({ cls := "TrimmedMachineModel", name := "copy", desc := "(III)V" } : Jvm.MethodName)) ∈ tm_wa := tm_tb (List.mem_append_right _ (List.mem_append_right _ (List.mem_append_right _ (List.mem_of_getElem? (i := 40) (by decide +kernel))))) rfl
theorem kw_761 : (Jvm.Cond.code ({ cls := "TrimmedMachineModel", name := "copy", desc := "(III)V" } : Jvm.MethodName) prog_8_method_16_code (5 : Nat) (Option.none : Option Jvm.ClassFile.FieldType)) ∈ tm_wa := tm_tb (List.mem_append_right _ (List.mem_append_right _ (List.mem_append_right _ (List.mem_of_getElem? (i := 41) (rfl))))) rfl
theorem kw_775 : (Jvm.Cond.instanceMethod ({ cls := "TrimmedMachineModel", name := "give", desc := "(IIIZ)V" } : Jvm.MethodName)) ∈ tm_wa := tm_tb (List.mem_append_right _ (List.mem_append_right _ (List.mem_append_right _ (List.mem_of_getElem? (i := 55) (by decide +kernel))))) rfl
theorem kw_776 : (Jvm.Cond.code ({ cls := "TrimmedMachineModel", name := "give", desc := "(IIIZ)V" } : Jvm.MethodName) prog_8_method_17_code (5 : Nat) (Option.none : Option Jvm.ClassFile.FieldType)) ∈ tm_wa := tm_tb (List.mem_append_right _ (List.mem_append_right _ (List.mem_append_right _ (List.mem_of_getElem? (i := 56) (rfl))))) rfl
abbrev y_MD_copy : MethodName := { cls := "TrimmedMachineModel", name := "copy", desc := "(III)V" }
abbrev b_MD_copy : ByteArray := prog_8_method_16_code
theorem ki_MD_copy : tm_ki y_MD_copy b_MD_copy 5 none 3 := ⟨⟨kw_6, kw_761, by decide, by decide, by decide +kernel⟩, kw_760, tm_sel (n := 31) (List.mem_append_right _ (List.mem_append_right _ (List.mem_append_left _ (List.mem_of_getElem? (i := 15) rfl))))⟩
abbrev y_MD_give : MethodName := { cls := "TrimmedMachineModel", name := "give", desc := "(IIIZ)V" }
abbrev b_MD_give : ByteArray := prog_8_method_17_code
theorem ki_MD_give : tm_ki y_MD_give b_MD_give 5 none 4 := ⟨⟨kw_6, kw_776, by decide, by decide, by decide +kernel⟩, kw_775, tm_sel (n := 31) (List.mem_append_right _ (List.mem_append_right _ (List.mem_append_right _ (List.mem_of_getElem? (i := 2) rfl))))⟩
abbrev y_MD_ones : MethodName := { cls := "TrimmedMachineModel", name := "ones", desc := "(I)I" }
abbrev b_MD_ones : ByteArray := prog_8_method_18_code
theorem ks_MD_ones : tm_ks y_MD_ones b_MD_ones 3 (some .int) 1 := ⟨⟨kw_6, kw_730, by decide, by decide, by decide +kernel⟩, kw_729⟩
abbrev y_MD_note : MethodName := { cls := "TrimmedMachineModel", name := "note", desc := "(II)I" }
abbrev b_MD_note : ByteArray := prog_8_method_19_code
theorem ki_MD_note : tm_ki y_MD_note b_MD_note 3 (some .int) 2 := ⟨⟨kw_6, kw_734, by decide, by decide, by decide +kernel⟩, kw_733, tm_sel (n := 31) (List.mem_append_right _ (List.mem_append_right _ (List.mem_append_left _ (List.mem_of_getElem? (i := 10) rfl))))⟩
abbrev y_MD_noteAll : MethodName := { cls := "TrimmedMachineModel", name := "noteAll", desc := "(II)I" }
abbrev b_MD_noteAll : ByteArray := prog_8_method_20_code
theorem ki_MD_noteAll : tm_ki y_MD_noteAll b_MD_noteAll 5 (some .int) 2 := ⟨⟨kw_6, kw_738, by decide, by decide, by decide +kernel⟩, kw_737, tm_sel (n := 31) (List.mem_append_right _ (List.mem_append_right _ (List.mem_append_left _ (List.mem_of_getElem? (i := 11) rfl))))⟩
abbrev y_MD_holdsValue : MethodName := { cls := "TrimmedMachineModel", name := "holdsValue", desc := "(I)Z" }
abbrev b_MD_holdsValue : ByteArray := prog_8_method_21_code
theorem ks_MD_holdsValue : tm_ks y_MD_holdsValue b_MD_holdsValue 1 (some .boolean) 1 := ⟨⟨kw_6, kw_741, by decide, by decide, by decide +kernel⟩, kw_740⟩
theorem d_MD_copy_0 : decode b_MD_copy 0 = .ok (.aload_n 0, 1) := by decide +kernel
theorem d_MD_copy_1 : decode b_MD_copy 1 = .ok (.getfield 28, 3) := by decide +kernel
theorem d_MD_copy_4 : decode b_MD_copy 4 = .ok (.iload_n 2, 1) := by decide +kernel
theorem d_MD_copy_5 : decode b_MD_copy 5 = .ok (.aload_n 0, 1) := by decide +kernel
theorem d_MD_copy_6 : decode b_MD_copy 6 = .ok (.getfield 28, 3) := by decide +kernel
theorem d_MD_copy_9 : decode b_MD_copy 9 = .ok (.iload_n 1, 1) := by decide +kernel
theorem d_MD_copy_10 : decode b_MD_copy 10 = .ok (.iaload, 1) := by decide +kernel
theorem d_MD_copy_11 : decode b_MD_copy 11 = .ok (.iload_n 3, 1) := by decide +kernel
theorem d_MD_copy_12 : decode b_MD_copy 12 = .ok (.iand, 1) := by decide +kernel
theorem d_MD_copy_13 : decode b_MD_copy 13 = .ok (.iastore, 1) := by decide +kernel
theorem d_MD_copy_14 : decode b_MD_copy 14 = .ok (.iconst 0, 1) := by decide +kernel
theorem d_MD_copy_15 : decode b_MD_copy 15 = .ok (.istore 4, 2) := by decide +kernel
theorem d_MD_copy_17 : decode b_MD_copy 17 = .ok (.iload 4, 2) := by decide +kernel
theorem d_MD_copy_19 : decode b_MD_copy 19 = .ok (.bipush 8, 2) := by decide +kernel
theorem d_MD_copy_21 : decode b_MD_copy 21 = .ok (.if_icmp .ge 57, 3) := by decide +kernel
theorem d_MD_copy_24 : decode b_MD_copy 24 = .ok (.aload_n 0, 1) := by decide +kernel
theorem d_MD_copy_25 : decode b_MD_copy 25 = .ok (.getfield 31, 3) := by decide +kernel
theorem d_MD_copy_28 : decode b_MD_copy 28 = .ok (.bipush 8, 2) := by decide +kernel
theorem d_MD_copy_30 : decode b_MD_copy 30 = .ok (.iload_n 2, 1) := by decide +kernel
theorem d_MD_copy_31 : decode b_MD_copy 31 = .ok (.imul, 1) := by decide +kernel
theorem d_MD_copy_32 : decode b_MD_copy 32 = .ok (.iload 4, 2) := by decide +kernel
theorem d_MD_copy_34 : decode b_MD_copy 34 = .ok (.iadd, 1) := by decide +kernel
theorem d_MD_copy_35 : decode b_MD_copy 35 = .ok (.aload_n 0, 1) := by decide +kernel
theorem d_MD_copy_36 : decode b_MD_copy 36 = .ok (.getfield 31, 3) := by decide +kernel
theorem d_MD_copy_39 : decode b_MD_copy 39 = .ok (.bipush 8, 2) := by decide +kernel
theorem d_MD_copy_41 : decode b_MD_copy 41 = .ok (.iload_n 1, 1) := by decide +kernel
theorem d_MD_copy_42 : decode b_MD_copy 42 = .ok (.imul, 1) := by decide +kernel
theorem d_MD_copy_43 : decode b_MD_copy 43 = .ok (.iload 4, 2) := by decide +kernel
theorem d_MD_copy_45 : decode b_MD_copy 45 = .ok (.iadd, 1) := by decide +kernel
theorem d_MD_copy_46 : decode b_MD_copy 46 = .ok (.iaload, 1) := by decide +kernel
theorem d_MD_copy_47 : decode b_MD_copy 47 = .ok (.iastore, 1) := by decide +kernel
theorem d_MD_copy_48 : decode b_MD_copy 48 = .ok (.aload_n 0, 1) := by decide +kernel
theorem d_MD_copy_49 : decode b_MD_copy 49 = .ok (.getfield 34, 3) := by decide +kernel
theorem d_MD_copy_52 : decode b_MD_copy 52 = .ok (.bipush 8, 2) := by decide +kernel
theorem d_MD_copy_54 : decode b_MD_copy 54 = .ok (.iload_n 2, 1) := by decide +kernel
theorem d_MD_copy_55 : decode b_MD_copy 55 = .ok (.imul, 1) := by decide +kernel
theorem d_MD_copy_56 : decode b_MD_copy 56 = .ok (.iload 4, 2) := by decide +kernel
theorem d_MD_copy_58 : decode b_MD_copy 58 = .ok (.iadd, 1) := by decide +kernel
theorem d_MD_copy_59 : decode b_MD_copy 59 = .ok (.aload_n 0, 1) := by decide +kernel
theorem d_MD_copy_60 : decode b_MD_copy 60 = .ok (.getfield 34, 3) := by decide +kernel
theorem d_MD_copy_63 : decode b_MD_copy 63 = .ok (.bipush 8, 2) := by decide +kernel
theorem d_MD_copy_65 : decode b_MD_copy 65 = .ok (.iload_n 1, 1) := by decide +kernel
theorem d_MD_copy_66 : decode b_MD_copy 66 = .ok (.imul, 1) := by decide +kernel
theorem d_MD_copy_67 : decode b_MD_copy 67 = .ok (.iload 4, 2) := by decide +kernel
theorem d_MD_copy_69 : decode b_MD_copy 69 = .ok (.iadd, 1) := by decide +kernel
theorem d_MD_copy_70 : decode b_MD_copy 70 = .ok (.baload, 1) := by decide +kernel
theorem d_MD_copy_71 : decode b_MD_copy 71 = .ok (.bastore, 1) := by decide +kernel
theorem d_MD_copy_72 : decode b_MD_copy 72 = .ok (.iinc 4 1, 3) := by decide +kernel
theorem d_MD_copy_75 : decode b_MD_copy 75 = .ok (.goto (-58), 3) := by decide +kernel
theorem d_MD_copy_78 : decode b_MD_copy 78 = .ok (.return_, 1) := by decide +kernel
set_option maxHeartbeats 4000000 in
set_option maxRecDepth 100000 in
theorem c_MD_copy (l : Launch) (D : va_G) (cI cZ : ClassId) (ad : Nat → Nat) (i : Nat) (j : Nat) (x : Int32) (u : tm_SC) (hi : i < 260) (hj : j < 260) (hz : ∀ m, tm_b1 (u.2.1 8 m)) : tm_V l y_MD_copy b_MD_copy 5 ({ frames := 0, cells := 0, slots := 0, locals := 0 } : Room) D (tm_yM cI cZ) (tm_wM ad cI cZ) [.ref (ad 0), .int (nI i), .int (nI j), .int (x)] u (fun u' => u' = (ms_copy u i j x)) := by
  intro sz
  refine tm_of (Qc := fun A => va_Qv (fun u' => u' = (ms_copy u i j x)) (fun u' t => tm_B D (tm_yM cI cZ) A (tm_wM ad cI cZ u') t) A) (by decide) (Nat.le_of_ble_eq_true rfl) ?_ sz
  intro pg eg sg mg bel met cg A ls X h hl hnm
  have hx := X.1.1
  have hb := X.1.2.1
  have hl : lv_has ls 5 [(0, .ref (ad 0)), (1, .int (nI i)), (2, .int (nI j)), (3, .int (x))] := hl
  refine lv_aload_n hx hb d_MD_copy_0 rfl (lv_at hl 0 rfl) ?_
  refine tm_get X h uw_MD 0 rfl rfl 7 (by decide) kw_579 rfl rfl d_MD_copy_1 ?_
  refine lv_iload_n hx hb d_MD_copy_4 rfl (lv_at hl 2 rfl) ?_
  refine lv_aload_n hx hb d_MD_copy_5 rfl (lv_at hl 0 rfl) ?_
  refine tm_get X h uw_MD 0 rfl rfl 7 (by decide) kw_579 rfl rfl d_MD_copy_6 ?_
  refine lv_iload_n hx hb d_MD_copy_9 rfl (lv_at hl 1 rfl) ?_
  refine tm_iald X h 7 0 rfl rfl (i) (by omega) (rfl) (by decide) d_MD_copy_10 ?_
  refine lv_iload_n hx hb d_MD_copy_11 rfl (lv_at hl 3 rfl) ?_
  refine lv_iand hx hb d_MD_copy_12 ?_
  refine tm_iast X h 7 0 rfl rfl (j) (by omega) (rfl) (by decide) (ws' := tm_wM ad cI cZ (tm_sa u 6 (j) ((((u).2.1 6 (i)) &&& x)))) rfl d_MD_copy_13 (fun H locs h => ?_)
  refine lv_iconst (v := 0) hx hb d_MD_copy_14 (by decide) ?_
  refine lv_istore hx hb d_MD_copy_15 hl (by decide) rfl (fun ls (hl : lv_has ls 5 [(4, .int (0)), (0, .ref (ad 0)), (1, .int (nI i)), (2, .int (nI j)), (3, .int (x))]) => ?_)
  have lp17 : ∀ (nf : Nat) (k : Nat) (H : Heap) (locs : List Loc) (ls : Array Slot), 8 - k < nf → (k ≤ 8) → tm_H D A sg (tm_wM ad cI cZ ((ms_cpl (tm_sa u 6 j (u.2.1 6 i &&& x)) i j k))) H locs → lv_has ls 5 [(0, .ref (ad 0)), (1, .int (nI i)), (2, .int (nI j)), (3, .int (x)), (4, .int (nI k))] → W pg l eg ({ frames := 0, cells := 0, slots := 0, locals := 0 } : Room) sg mg ([.ref (ad 0), .int (nI i), .int (nI j), .int (x)] : List Value).toArray bel met cg H locs 0 0 (MQ bel (va_Qv (fun u' => u' = (ms_copy u i j x)) (fun u' t => tm_B D (tm_yM cI cZ) A (tm_wM ad cI cZ u') t) A) ([.ref (ad 0), .int (nI i), .int (nI j), .int (x)] : List Value).toArray sg 0 0 A) (F0 mg 17 ls []) := by
    intro nf
    induction nf with
    | zero => intro k H locs ls hm; exact absurd hm (Nat.not_lt_zero _)
    | succ nf ih =>
      intro k H locs ls hm hk h hl
      refine lv_iload hx hb d_MD_copy_17 (lv_at hl 4 rfl) ?_
      refine lv_bipush (v := 8) hx hb d_MD_copy_19 (by decide) ?_
      refine lv_icmp_ge hx hb d_MD_copy_21 (tgt := 78) rfl (fun h21t => ?_) (fun h21f => ?_)
      · have e21 : k = 8 := by have := (nI_leI (a := 8) (by decide) (by omega)).mp h21t; omega
        exact tm_vret (w := tm_wM ad cI cZ) (u := ((ms_cpl (tm_sa u 6 j (u.2.1 6 i &&& x)) i j k))) X h (by rw [e21]; rfl) d_MD_copy_78
      · have h21 : k < 8 := by have : ¬ 8 ≤ k := fun q => h21f ((nI_leI (a := 8) (by decide) (by omega)).mpr q); omega
        refine lv_aload_n hx hb d_MD_copy_24 rfl (lv_at hl 0 rfl) ?_
        refine tm_get X h uw_MD 0 rfl rfl 8 (by decide) kw_580 rfl rfl d_MD_copy_25 ?_
        refine lv_bipush (v := 8) hx hb d_MD_copy_28 (by decide) ?_
        refine lv_iload_n hx hb d_MD_copy_30 rfl (lv_at hl 2 rfl) ?_
        refine lv_imul hx hb d_MD_copy_31 ?_
        refine lv_iload hx hb d_MD_copy_32 (lv_at hl 4 rfl) ?_
        refine lv_iadd hx hb d_MD_copy_34 ?_
        refine lv_aload_n hx hb d_MD_copy_35 rfl (lv_at hl 0 rfl) ?_
        refine tm_get X h uw_MD 0 rfl rfl 8 (by decide) kw_580 rfl rfl d_MD_copy_36 ?_
        refine lv_bipush (v := 8) hx hb d_MD_copy_39 (by decide) ?_
        refine lv_iload_n hx hb d_MD_copy_41 rfl (lv_at hl 1 rfl) ?_
        refine lv_imul hx hb d_MD_copy_42 ?_
        refine lv_iload hx hb d_MD_copy_43 (lv_at hl 4 rfl) ?_
        refine lv_iadd hx hb d_MD_copy_45 ?_
        refine tm_iald X h 8 0 rfl rfl (8 * i + k) (by omega) (tm_8ix i k) (by decide) d_MD_copy_46 ?_
        refine tm_iast X h 8 0 rfl rfl (8 * j + k) (by omega) (tm_8ix j k) (by decide) (ws' := tm_wM ad cI cZ (tm_sa ((ms_cpl (tm_sa u 6 j (u.2.1 6 i &&& x)) i j k)) 7 (8 * j + k) (((((ms_cpl (tm_sa u 6 j (u.2.1 6 i &&& x)) i j k))).2.1 7 (8 * i + k))))) rfl d_MD_copy_47 (fun H locs h => ?_)
        refine lv_aload_n hx hb d_MD_copy_48 rfl (lv_at hl 0 rfl) ?_
        refine tm_get X h uw_MD 0 rfl rfl 9 (by decide) kw_581 rfl rfl d_MD_copy_49 ?_
        refine lv_bipush (v := 8) hx hb d_MD_copy_52 (by decide) ?_
        refine lv_iload_n hx hb d_MD_copy_54 rfl (lv_at hl 2 rfl) ?_
        refine lv_imul hx hb d_MD_copy_55 ?_
        refine lv_iload hx hb d_MD_copy_56 (lv_at hl 4 rfl) ?_
        refine lv_iadd hx hb d_MD_copy_58 ?_
        refine lv_aload_n hx hb d_MD_copy_59 rfl (lv_at hl 0 rfl) ?_
        refine tm_get X h uw_MD 0 rfl rfl 9 (by decide) kw_581 rfl rfl d_MD_copy_60 ?_
        refine lv_bipush (v := 8) hx hb d_MD_copy_63 (by decide) ?_
        refine lv_iload_n hx hb d_MD_copy_65 rfl (lv_at hl 1 rfl) ?_
        refine lv_imul hx hb d_MD_copy_66 ?_
        refine lv_iload hx hb d_MD_copy_67 (lv_at hl 4 rfl) ?_
        refine lv_iadd hx hb d_MD_copy_69 ?_
        refine tm_zald X h 9 1 rfl rfl (8 * i + k) (by omega) (tm_8ix i k) (by decide) d_MD_copy_70 ?_
        refine tm_zast X h 9 1 rfl rfl (8 * j + k) (by omega) (tm_8ix j k) (by decide) (tm_b1.nar (ms_cpl_b (u := (tm_sa u 6 j (u.2.1 6 i &&& x))) hz k _)) (ws' := tm_wM ad cI cZ (tm_sa (tm_sa ((ms_cpl (tm_sa u 6 j (u.2.1 6 i &&& x)) i j k)) 7 (8 * j + k) (((((ms_cpl (tm_sa u 6 j (u.2.1 6 i &&& x)) i j k))).2.1 7 (8 * i + k)))) 8 (8 * j + k) ((((tm_sa ((ms_cpl (tm_sa u 6 j (u.2.1 6 i &&& x)) i j k)) 7 (8 * j + k) (((((ms_cpl (tm_sa u 6 j (u.2.1 6 i &&& x)) i j k))).2.1 7 (8 * i + k))))).2.1 8 (8 * i + k))))) rfl d_MD_copy_71 (fun H locs h => ?_)
        refine lv_iinc (v := nI (k + 1)) hx hb d_MD_copy_72 hl (k := 4) rfl (tm_inc k) (by decide) rfl (fun ls (hl : lv_has ls 5 [(4, .int (nI (k + 1))), (0, .ref (ad 0)), (1, .int (nI i)), (2, .int (nI j)), (3, .int (x))]) => ?_)
        refine lv_goto hx hb d_MD_copy_75 (tgt := 17) rfl ?_
        exact ih (k + 1) _ _ _ (by omega) (by omega) h (lv_sub hl [1, 2, 3, 4, 0] rfl)
  exact lp17 _ (0) _ _ _ (Nat.lt_succ_self _) (Nat.zero_le _) h (lv_sub hl [1, 2, 3, 4, 0] rfl)
theorem d_MD_give_0 : decode b_MD_give 0 = .ok (.aload_n 0, 1) := by decide +kernel
theorem d_MD_give_1 : decode b_MD_give 1 = .ok (.getfield 28, 3) := by decide +kernel
theorem d_MD_give_4 : decode b_MD_give 4 = .ok (.iload_n 1, 1) := by decide +kernel
theorem d_MD_give_5 : decode b_MD_give 5 = .ok (.dup2, 1) := by decide +kernel
theorem d_MD_give_6 : decode b_MD_give 6 = .ok (.iaload, 1) := by decide +kernel
theorem d_MD_give_7 : decode b_MD_give 7 = .ok (.iconst 1, 1) := by decide +kernel
theorem d_MD_give_8 : decode b_MD_give 8 = .ok (.iload_n 2, 1) := by decide +kernel
theorem d_MD_give_9 : decode b_MD_give 9 = .ok (.ishl, 1) := by decide +kernel
theorem d_MD_give_10 : decode b_MD_give 10 = .ok (.ior, 1) := by decide +kernel
theorem d_MD_give_11 : decode b_MD_give 11 = .ok (.iastore, 1) := by decide +kernel
theorem d_MD_give_12 : decode b_MD_give 12 = .ok (.aload_n 0, 1) := by decide +kernel
theorem d_MD_give_13 : decode b_MD_give 13 = .ok (.getfield 31, 3) := by decide +kernel
theorem d_MD_give_16 : decode b_MD_give 16 = .ok (.bipush 8, 2) := by decide +kernel
theorem d_MD_give_18 : decode b_MD_give 18 = .ok (.iload_n 1, 1) := by decide +kernel
theorem d_MD_give_19 : decode b_MD_give 19 = .ok (.imul, 1) := by decide +kernel
theorem d_MD_give_20 : decode b_MD_give 20 = .ok (.iload_n 2, 1) := by decide +kernel
theorem d_MD_give_21 : decode b_MD_give 21 = .ok (.iadd, 1) := by decide +kernel
theorem d_MD_give_22 : decode b_MD_give 22 = .ok (.iload_n 3, 1) := by decide +kernel
theorem d_MD_give_23 : decode b_MD_give 23 = .ok (.iastore, 1) := by decide +kernel
theorem d_MD_give_24 : decode b_MD_give 24 = .ok (.aload_n 0, 1) := by decide +kernel
theorem d_MD_give_25 : decode b_MD_give 25 = .ok (.getfield 34, 3) := by decide +kernel
theorem d_MD_give_28 : decode b_MD_give 28 = .ok (.bipush 8, 2) := by decide +kernel
theorem d_MD_give_30 : decode b_MD_give 30 = .ok (.iload_n 1, 1) := by decide +kernel
theorem d_MD_give_31 : decode b_MD_give 31 = .ok (.imul, 1) := by decide +kernel
theorem d_MD_give_32 : decode b_MD_give 32 = .ok (.iload_n 2, 1) := by decide +kernel
theorem d_MD_give_33 : decode b_MD_give 33 = .ok (.iadd, 1) := by decide +kernel
theorem d_MD_give_34 : decode b_MD_give 34 = .ok (.iload 4, 2) := by decide +kernel
theorem d_MD_give_36 : decode b_MD_give 36 = .ok (.bastore, 1) := by decide +kernel
theorem d_MD_give_37 : decode b_MD_give 37 = .ok (.return_, 1) := by decide +kernel
set_option maxHeartbeats 4000000 in
set_option maxRecDepth 100000 in
theorem c_MD_give (l : Launch) (D : va_G) (cI cZ : ClassId) (ad : Nat → Nat) (i : Nat) (p : Nat) (x : Int32) (c : Int32) (u : tm_SC) (hi : i < 260) (hp : p < 8) (hc : tm_b1 c) : tm_V l y_MD_give b_MD_give 5 ({ frames := 0, cells := 0, slots := 0, locals := 0 } : Room) D (tm_yM cI cZ) (tm_wM ad cI cZ) [.ref (ad 0), .int (nI i), .int (nI p), .int (x), .int (c)] u (fun u' => u' = (ms_give u i p x c)) := by
  intro sz
  refine tm_of (Qc := fun A => va_Qv (fun u' => u' = (ms_give u i p x c)) (fun u' t => tm_B D (tm_yM cI cZ) A (tm_wM ad cI cZ u') t) A) (by decide) (Nat.le_of_ble_eq_true rfl) ?_ sz
  intro pg eg sg mg bel met cg A ls X h hl hnm
  have hx := X.1.1
  have hb := X.1.2.1
  have hl : lv_has ls 5 [(0, .ref (ad 0)), (1, .int (nI i)), (2, .int (nI p)), (3, .int (x)), (4, .int (c))] := hl
  refine lv_aload_n hx hb d_MD_give_0 rfl (lv_at hl 0 rfl) ?_
  refine tm_get X h uw_MD 0 rfl rfl 7 (by decide) kw_579 rfl rfl d_MD_give_1 ?_
  refine lv_iload_n hx hb d_MD_give_4 rfl (lv_at hl 1 rfl) ?_
  refine lv_dup2_11 hx hb d_MD_give_5 rfl rfl ?_
  refine tm_iald X h 7 0 rfl rfl (i) (by omega) (rfl) (by decide) d_MD_give_6 ?_
  refine lv_iconst (v := 1) hx hb d_MD_give_7 (by decide) ?_
  refine lv_iload_n hx hb d_MD_give_8 rfl (lv_at hl 2 rfl) ?_
  refine lv_ishl hx hb d_MD_give_9 ?_
  refine lv_ior hx hb d_MD_give_10 ?_
  refine tm_iast X h 7 0 rfl rfl (i) (by omega) (rfl) (by decide) (ws' := tm_wM ad cI cZ (tm_sa u 6 (i) ((((u).2.1 6 (i)) ||| (1 <<< (nI p &&& 31)))))) rfl d_MD_give_11 (fun H locs h => ?_)
  refine lv_aload_n hx hb d_MD_give_12 rfl (lv_at hl 0 rfl) ?_
  refine tm_get X h uw_MD 0 rfl rfl 8 (by decide) kw_580 rfl rfl d_MD_give_13 ?_
  refine lv_bipush (v := 8) hx hb d_MD_give_16 (by decide) ?_
  refine lv_iload_n hx hb d_MD_give_18 rfl (lv_at hl 1 rfl) ?_
  refine lv_imul hx hb d_MD_give_19 ?_
  refine lv_iload_n hx hb d_MD_give_20 rfl (lv_at hl 2 rfl) ?_
  refine lv_iadd hx hb d_MD_give_21 ?_
  refine lv_iload_n hx hb d_MD_give_22 rfl (lv_at hl 3 rfl) ?_
  refine tm_iast X h 8 0 rfl rfl (8 * i + p) (by omega) (tm_8ix i p) (by decide) (ws' := tm_wM ad cI cZ (tm_sa (tm_sa u 6 (i) ((((u).2.1 6 (i)) ||| (1 <<< (nI p &&& 31))))) 7 (8 * i + p) (x))) rfl d_MD_give_23 (fun H locs h => ?_)
  refine lv_aload_n hx hb d_MD_give_24 rfl (lv_at hl 0 rfl) ?_
  refine tm_get X h uw_MD 0 rfl rfl 9 (by decide) kw_581 rfl rfl d_MD_give_25 ?_
  refine lv_bipush (v := 8) hx hb d_MD_give_28 (by decide) ?_
  refine lv_iload_n hx hb d_MD_give_30 rfl (lv_at hl 1 rfl) ?_
  refine lv_imul hx hb d_MD_give_31 ?_
  refine lv_iload_n hx hb d_MD_give_32 rfl (lv_at hl 2 rfl) ?_
  refine lv_iadd hx hb d_MD_give_33 ?_
  refine lv_iload hx hb d_MD_give_34 (lv_at hl 4 rfl) ?_
  refine tm_zast X h 9 1 rfl rfl (8 * i + p) (by omega) (tm_8ix i p) (by decide) (hc.nar) (ws' := tm_wM ad cI cZ (tm_sa (tm_sa (tm_sa u 6 (i) ((((u).2.1 6 (i)) ||| (1 <<< (nI p &&& 31))))) 7 (8 * i + p) (x)) 8 (8 * i + p) (c))) rfl d_MD_give_36 (fun H locs h => ?_)
  exact tm_vret (w := tm_wM ad cI cZ) (u := (tm_sa (tm_sa (tm_sa u 6 (i) ((((u).2.1 6 (i)) ||| (1 <<< (nI p &&& 31))))) 7 (8 * i + p) (x)) 8 (8 * i + p) (c))) X h (rfl) d_MD_give_37
theorem d_MD_ones_0 : decode b_MD_ones 0 = .ok (.iconst 0, 1) := by decide +kernel
theorem d_MD_ones_1 : decode b_MD_ones 1 = .ok (.istore_n 1, 1) := by decide +kernel
theorem d_MD_ones_2 : decode b_MD_ones 2 = .ok (.iconst 0, 1) := by decide +kernel
theorem d_MD_ones_3 : decode b_MD_ones 3 = .ok (.istore_n 2, 1) := by decide +kernel
theorem d_MD_ones_4 : decode b_MD_ones 4 = .ok (.iload_n 2, 1) := by decide +kernel
theorem d_MD_ones_5 : decode b_MD_ones 5 = .ok (.bipush 8, 2) := by decide +kernel
theorem d_MD_ones_7 : decode b_MD_ones 7 = .ok (.if_icmp .ge 17, 3) := by decide +kernel
theorem d_MD_ones_10 : decode b_MD_ones 10 = .ok (.iload_n 1, 1) := by decide +kernel
theorem d_MD_ones_11 : decode b_MD_ones 11 = .ok (.iload_n 0, 1) := by decide +kernel
theorem d_MD_ones_12 : decode b_MD_ones 12 = .ok (.iload_n 2, 1) := by decide +kernel
theorem d_MD_ones_13 : decode b_MD_ones 13 = .ok (.ishr, 1) := by decide +kernel
theorem d_MD_ones_14 : decode b_MD_ones 14 = .ok (.iconst 1, 1) := by decide +kernel
theorem d_MD_ones_15 : decode b_MD_ones 15 = .ok (.iand, 1) := by decide +kernel
theorem d_MD_ones_16 : decode b_MD_ones 16 = .ok (.iadd, 1) := by decide +kernel
theorem d_MD_ones_17 : decode b_MD_ones 17 = .ok (.istore_n 1, 1) := by decide +kernel
theorem d_MD_ones_18 : decode b_MD_ones 18 = .ok (.iinc 2 1, 3) := by decide +kernel
theorem d_MD_ones_21 : decode b_MD_ones 21 = .ok (.goto (-17), 3) := by decide +kernel
theorem d_MD_ones_24 : decode b_MD_ones 24 = .ok (.iload_n 1, 1) := by decide +kernel
theorem d_MD_ones_25 : decode b_MD_ones 25 = .ok (.ireturn, 1) := by decide +kernel
set_option maxHeartbeats 4000000 in
set_option maxRecDepth 100000 in
theorem c_MD_ones (l : Launch) (D : va_G) (cI cZ : ClassId) (ad : Nat → Nat) (x : Int32) (u : tm_SC)  : tm_I l y_MD_ones b_MD_ones 3 .int ({ frames := 0, cells := 0, slots := 0, locals := 0 } : Room) D (tm_yM cI cZ) (tm_wM ad cI cZ) [.int (x)] u (fun r u' => r = (ms_ones x 8) ∧ u' = u) := by
  intro sz
  refine tm_of (Qc := fun A => va_Qi (fun r u' => r = (ms_ones x 8) ∧ u' = u) (fun u' t => tm_B D (tm_yM cI cZ) A (tm_wM ad cI cZ u') t) A) (by decide) (Nat.le_of_ble_eq_true rfl) ?_ sz
  intro pg eg sg mg bel met cg A ls X h hl hnm
  have hx := X.1.1
  have hb := X.1.2.1
  have hl : lv_has ls 3 [(0, .int (x))] := hl
  refine lv_iconst (v := 0) hx hb d_MD_ones_0 (by decide) ?_
  refine lv_istore_n hx hb d_MD_ones_1 rfl hl (by decide) rfl (fun ls (hl : lv_has ls 3 [(1, .int (0)), (0, .int (x))]) => ?_)
  refine lv_iconst (v := 0) hx hb d_MD_ones_2 (by decide) ?_
  refine lv_istore_n hx hb d_MD_ones_3 rfl hl (by decide) rfl (fun ls (hl : lv_has ls 3 [(2, .int (0)), (1, .int (0)), (0, .int (x))]) => ?_)
  have lp4 : ∀ (nf : Nat) (k : Nat) (H : Heap) (locs : List Loc) (ls : Array Slot), 8 - k < nf → (k ≤ 8) → tm_H D A sg (tm_wM ad cI cZ (u)) H locs → lv_has ls 3 [(0, .int (x)), (1, .int (ms_ones x k)), (2, .int (nI k))] → W pg l eg ({ frames := 0, cells := 0, slots := 0, locals := 0 } : Room) sg mg ([.int (x)] : List Value).toArray bel met cg H locs 0 0 (MQ bel (va_Qi (fun r u' => r = (ms_ones x 8) ∧ u' = u) (fun u' t => tm_B D (tm_yM cI cZ) A (tm_wM ad cI cZ u') t) A) ([.int (x)] : List Value).toArray sg 0 0 A) (F0 mg 4 ls []) := by
    intro nf
    induction nf with
    | zero => intro k H locs ls hm; exact absurd hm (Nat.not_lt_zero _)
    | succ nf ih =>
      intro k H locs ls hm hk h hl
      refine lv_iload_n hx hb d_MD_ones_4 rfl (lv_at hl 2 rfl) ?_
      refine lv_bipush (v := 8) hx hb d_MD_ones_5 (by decide) ?_
      refine lv_icmp_ge hx hb d_MD_ones_7 (tgt := 24) rfl (fun h7t => ?_) (fun h7f => ?_)
      · have e7 : k = 8 := by have := (nI_leI (a := 8) (by decide) (by omega)).mp h7t; omega
        refine lv_iload_n hx hb d_MD_ones_24 rfl (lv_at hl 1 rfl) ?_
        exact tm_iret (w := tm_wM ad cI cZ) (u := (u)) X h (⟨by rw [e7], rfl⟩) d_MD_ones_25
      · have h7 : k < 8 := by have : ¬ 8 ≤ k := fun q => h7f ((nI_leI (a := 8) (by decide) (by omega)).mpr q); omega
        refine lv_iload_n hx hb d_MD_ones_10 rfl (lv_at hl 1 rfl) ?_
        refine lv_iload_n hx hb d_MD_ones_11 rfl (lv_at hl 0 rfl) ?_
        refine lv_iload_n hx hb d_MD_ones_12 rfl (lv_at hl 2 rfl) ?_
        refine lv_ishr hx hb d_MD_ones_13 ?_
        refine lv_iconst (v := 1) hx hb d_MD_ones_14 (by decide) ?_
        refine lv_iand hx hb d_MD_ones_15 ?_
        refine lv_iadd hx hb d_MD_ones_16 ?_
        refine lv_istore_n hx hb d_MD_ones_17 rfl hl (by decide) rfl (fun ls (hl : lv_has ls 3 [(1, .int ((ms_ones x k + ((x >>> (nI k &&& 31)) &&& 1)))), (0, .int (x)), (2, .int (nI k))]) => ?_)
        refine lv_iinc (v := nI (k + 1)) hx hb d_MD_ones_18 hl (k := 2) rfl (tm_inc k) (by decide) rfl (fun ls (hl : lv_has ls 3 [(2, .int (nI (k + 1))), (1, .int ((ms_ones x k + ((x >>> (nI k &&& 31)) &&& 1)))), (0, .int (x))]) => ?_)
        refine lv_goto hx hb d_MD_ones_21 (tgt := 4) rfl ?_
        exact ih (k + 1) _ _ _ (by omega) (by omega) h (lv_sub hl [2, 1, 0] rfl)
  exact lp4 _ (0) _ _ _ (Nat.lt_succ_self _) (Nat.zero_le _) h (lv_sub hl [2, 1, 0] rfl)
theorem d_MD_note_0 : decode b_MD_note 0 = .ok (.aload_n 0, 1) := by decide +kernel
theorem d_MD_note_1 : decode b_MD_note 1 = .ok (.getfield 41, 3) := by decide +kernel
theorem d_MD_note_4 : decode b_MD_note 4 = .ok (.iload_n 1, 1) := by decide +kernel
theorem d_MD_note_5 : decode b_MD_note 5 = .ok (.baload, 1) := by decide +kernel
theorem d_MD_note_6 : decode b_MD_note 6 = .ok (.ifCond .eq 5, 3) := by decide +kernel
theorem d_MD_note_9 : decode b_MD_note 9 = .ok (.iload_n 2, 1) := by decide +kernel
theorem d_MD_note_10 : decode b_MD_note 10 = .ok (.ireturn, 1) := by decide +kernel
theorem d_MD_note_11 : decode b_MD_note 11 = .ok (.aload_n 0, 1) := by decide +kernel
theorem d_MD_note_12 : decode b_MD_note 12 = .ok (.getfield 41, 3) := by decide +kernel
theorem d_MD_note_15 : decode b_MD_note 15 = .ok (.iload_n 1, 1) := by decide +kernel
theorem d_MD_note_16 : decode b_MD_note 16 = .ok (.iconst 1, 1) := by decide +kernel
theorem d_MD_note_17 : decode b_MD_note 17 = .ok (.bastore, 1) := by decide +kernel
theorem d_MD_note_18 : decode b_MD_note 18 = .ok (.aload_n 0, 1) := by decide +kernel
theorem d_MD_note_19 : decode b_MD_note 19 = .ok (.dup, 1) := by decide +kernel
theorem d_MD_note_20 : decode b_MD_note 20 = .ok (.getfield 91, 3) := by decide +kernel
theorem d_MD_note_23 : decode b_MD_note 23 = .ok (.iconst 1, 1) := by decide +kernel
theorem d_MD_note_24 : decode b_MD_note 24 = .ok (.iadd, 1) := by decide +kernel
theorem d_MD_note_25 : decode b_MD_note 25 = .ok (.putfield 91, 3) := by decide +kernel
theorem d_MD_note_28 : decode b_MD_note 28 = .ok (.aload_n 0, 1) := by decide +kernel
theorem d_MD_note_29 : decode b_MD_note 29 = .ok (.getfield 44, 3) := by decide +kernel
theorem d_MD_note_32 : decode b_MD_note 32 = .ok (.iload_n 2, 1) := by decide +kernel
theorem d_MD_note_33 : decode b_MD_note 33 = .ok (.iload_n 1, 1) := by decide +kernel
theorem d_MD_note_34 : decode b_MD_note 34 = .ok (.iastore, 1) := by decide +kernel
theorem d_MD_note_35 : decode b_MD_note 35 = .ok (.iload_n 2, 1) := by decide +kernel
theorem d_MD_note_36 : decode b_MD_note 36 = .ok (.iconst 1, 1) := by decide +kernel
theorem d_MD_note_37 : decode b_MD_note 37 = .ok (.iadd, 1) := by decide +kernel
theorem d_MD_note_38 : decode b_MD_note 38 = .ok (.ireturn, 1) := by decide +kernel
set_option maxHeartbeats 4000000 in
set_option maxRecDepth 100000 in
theorem c_MD_note (l : Launch) (D : va_G) (cI cZ : ClassId) (ad : Nat → Nat) (c : Nat) (n : Nat) (u : tm_SC) (hc : c < 130) (hv : u.2.1 10 c = 0 → n < 130) : tm_I l y_MD_note b_MD_note 3 .int ({ frames := 0, cells := 0, slots := 0, locals := 0 } : Room) D (tm_yM cI cZ) (tm_wM ad cI cZ) [.ref (ad 0), .int (nI c), .int (nI n)] u (fun r u' => r = (nI (ms_noteN u c n)) ∧ u' = (ms_noteU u c n)) := by
  intro sz
  refine tm_of (Qc := fun A => va_Qi (fun r u' => r = (nI (ms_noteN u c n)) ∧ u' = (ms_noteU u c n)) (fun u' t => tm_B D (tm_yM cI cZ) A (tm_wM ad cI cZ u') t) A) (by decide) (Nat.le_of_ble_eq_true rfl) ?_ sz
  intro pg eg sg mg bel met cg A ls X h hl hnm
  have hx := X.1.1
  have hb := X.1.2.1
  have hl : lv_has ls 3 [(0, .ref (ad 0)), (1, .int (nI c)), (2, .int (nI n))] := hl
  refine lv_aload_n hx hb d_MD_note_0 rfl (lv_at hl 0 rfl) ?_
  refine tm_get X h uw_MD 0 rfl rfl 11 (by decide) kw_583 rfl rfl d_MD_note_1 ?_
  refine lv_iload_n hx hb d_MD_note_4 rfl (lv_at hl 1 rfl) ?_
  refine tm_zald X h 11 1 rfl rfl (c) (by omega) (rfl) (by decide) d_MD_note_5 ?_
  refine lv_if_eq hx hb d_MD_note_6 (tgt := 11) rfl (fun h6t => ?_) (fun h6f => ?_)
  · refine lv_aload_n hx hb d_MD_note_11 rfl (lv_at hl 0 rfl) ?_
    refine tm_get X h uw_MD 0 rfl rfl 11 (by decide) kw_583 rfl rfl d_MD_note_12 ?_
    refine lv_iload_n hx hb d_MD_note_15 rfl (lv_at hl 1 rfl) ?_
    refine lv_iconst (v := 1) hx hb d_MD_note_16 (by decide) ?_
    refine tm_zast X h 11 1 rfl rfl (c) (by omega) (rfl) (by decide) (rfl) (ws' := tm_wM ad cI cZ (tm_sa u 10 (c) (1))) rfl d_MD_note_17 (fun H locs h => ?_)
    refine lv_aload_n hx hb d_MD_note_18 rfl (lv_at hl 0 rfl) ?_
    refine lv_dup hx hb d_MD_note_19 rfl ?_
    refine tm_get X h uw_MD 0 rfl rfl 18 (by decide) kw_590 rfl rfl d_MD_note_20 ?_
    refine lv_iconst (v := 1) hx hb d_MD_note_23 (by decide) ?_
    refine lv_iadd hx hb d_MD_note_24 ?_
    refine tm_put X h uw_MD t_MD t_MD_ok n_MD 0 rfl rfl 18 (by decide) kw_590 rfl rfl (rfl) (rfl) (Nat.le_of_ble_eq_true rfl) (ws' := tm_wM ad cI cZ (tm_sf (tm_sa u 10 (c) (1)) 6 (((((tm_sa u 10 (c) (1))).1 6) + 1)))) rfl d_MD_note_25 (fun H locs h => ?_)
    refine lv_aload_n hx hb d_MD_note_28 rfl (lv_at hl 0 rfl) ?_
    refine tm_get X h uw_MD 0 rfl rfl 12 (by decide) kw_584 rfl rfl d_MD_note_29 ?_
    refine lv_iload_n hx hb d_MD_note_32 rfl (lv_at hl 2 rfl) ?_
    refine lv_iload_n hx hb d_MD_note_33 rfl (lv_at hl 1 rfl) ?_
    refine tm_iast X h 12 0 rfl rfl (n) (hv h6t) (rfl) (by decide) (ws' := tm_wM ad cI cZ (tm_sa (tm_sf (tm_sa u 10 (c) (1)) 6 (((((tm_sa u 10 (c) (1))).1 6) + 1))) 11 (n) (nI c))) rfl d_MD_note_34 (fun H locs h => ?_)
    refine lv_iload_n hx hb d_MD_note_35 rfl (lv_at hl 2 rfl) ?_
    refine lv_iconst (v := 1) hx hb d_MD_note_36 (by decide) ?_
    refine lv_iadd hx hb d_MD_note_37 ?_
    exact tm_iret (w := tm_wM ad cI cZ) (u := (tm_sa (tm_sf (tm_sa u 10 (c) (1)) 6 (((((tm_sa u 10 (c) (1))).1 6) + 1))) 11 (n) (nI c))) X h (⟨(nI_1 n).trans (congrArg nI (if_pos h6t).symm), (if_pos h6t).symm⟩) d_MD_note_38
  · refine lv_iload_n hx hb d_MD_note_9 rfl (lv_at hl 2 rfl) ?_
    exact tm_iret (w := tm_wM ad cI cZ) (u := u) X h (⟨congrArg nI (if_neg h6f).symm, (if_neg h6f).symm⟩) d_MD_note_10
theorem d_MD_noteAll_0 : decode b_MD_noteAll 0 = .ok (.iload_n 2, 1) := by decide +kernel
theorem d_MD_noteAll_1 : decode b_MD_noteAll 1 = .ok (.istore_n 3, 1) := by decide +kernel
theorem d_MD_noteAll_2 : decode b_MD_noteAll 2 = .ok (.iconst 0, 1) := by decide +kernel
theorem d_MD_noteAll_3 : decode b_MD_noteAll 3 = .ok (.istore 4, 2) := by decide +kernel
theorem d_MD_noteAll_5 : decode b_MD_noteAll 5 = .ok (.iload 4, 2) := by decide +kernel
theorem d_MD_noteAll_7 : decode b_MD_noteAll 7 = .ok (.bipush 8, 2) := by decide +kernel
theorem d_MD_noteAll_9 : decode b_MD_noteAll 9 = .ok (.if_icmp .ge 57, 3) := by decide +kernel
theorem d_MD_noteAll_12 : decode b_MD_noteAll 12 = .ok (.aload_n 0, 1) := by decide +kernel
theorem d_MD_noteAll_13 : decode b_MD_noteAll 13 = .ok (.getfield 28, 3) := by decide +kernel
theorem d_MD_noteAll_16 : decode b_MD_noteAll 16 = .ok (.iload_n 1, 1) := by decide +kernel
theorem d_MD_noteAll_17 : decode b_MD_noteAll 17 = .ok (.iaload, 1) := by decide +kernel
theorem d_MD_noteAll_18 : decode b_MD_noteAll 18 = .ok (.iload 4, 2) := by decide +kernel
theorem d_MD_noteAll_20 : decode b_MD_noteAll 20 = .ok (.ishr, 1) := by decide +kernel
theorem d_MD_noteAll_21 : decode b_MD_noteAll 21 = .ok (.iconst 1, 1) := by decide +kernel
theorem d_MD_noteAll_22 : decode b_MD_noteAll 22 = .ok (.iand, 1) := by decide +kernel
theorem d_MD_noteAll_23 : decode b_MD_noteAll 23 = .ok (.iconst 1, 1) := by decide +kernel
theorem d_MD_noteAll_24 : decode b_MD_noteAll 24 = .ok (.if_icmp .ne 36, 3) := by decide +kernel
theorem d_MD_noteAll_27 : decode b_MD_noteAll 27 = .ok (.aload_n 0, 1) := by decide +kernel
theorem d_MD_noteAll_28 : decode b_MD_noteAll 28 = .ok (.getfield 34, 3) := by decide +kernel
theorem d_MD_noteAll_31 : decode b_MD_noteAll 31 = .ok (.bipush 8, 2) := by decide +kernel
theorem d_MD_noteAll_33 : decode b_MD_noteAll 33 = .ok (.iload_n 1, 1) := by decide +kernel
theorem d_MD_noteAll_34 : decode b_MD_noteAll 34 = .ok (.imul, 1) := by decide +kernel
theorem d_MD_noteAll_35 : decode b_MD_noteAll 35 = .ok (.iload 4, 2) := by decide +kernel
theorem d_MD_noteAll_37 : decode b_MD_noteAll 37 = .ok (.iadd, 1) := by decide +kernel
theorem d_MD_noteAll_38 : decode b_MD_noteAll 38 = .ok (.baload, 1) := by decide +kernel
theorem d_MD_noteAll_39 : decode b_MD_noteAll 39 = .ok (.ifCond .eq 21, 3) := by decide +kernel
theorem d_MD_noteAll_42 : decode b_MD_noteAll 42 = .ok (.aload_n 0, 1) := by decide +kernel
theorem d_MD_noteAll_43 : decode b_MD_noteAll 43 = .ok (.aload_n 0, 1) := by decide +kernel
theorem d_MD_noteAll_44 : decode b_MD_noteAll 44 = .ok (.getfield 31, 3) := by decide +kernel
theorem d_MD_noteAll_47 : decode b_MD_noteAll 47 = .ok (.bipush 8, 2) := by decide +kernel
theorem d_MD_noteAll_49 : decode b_MD_noteAll 49 = .ok (.iload_n 1, 1) := by decide +kernel
theorem d_MD_noteAll_50 : decode b_MD_noteAll 50 = .ok (.imul, 1) := by decide +kernel
theorem d_MD_noteAll_51 : decode b_MD_noteAll 51 = .ok (.iload 4, 2) := by decide +kernel
theorem d_MD_noteAll_53 : decode b_MD_noteAll 53 = .ok (.iadd, 1) := by decide +kernel
theorem d_MD_noteAll_54 : decode b_MD_noteAll 54 = .ok (.iaload, 1) := by decide +kernel
theorem d_MD_noteAll_55 : decode b_MD_noteAll 55 = .ok (.iload_n 3, 1) := by decide +kernel
theorem d_MD_noteAll_56 : decode b_MD_noteAll 56 = .ok (.invokevirtual 94, 3) := by decide +kernel
theorem d_MD_noteAll_59 : decode b_MD_noteAll 59 = .ok (.istore_n 3, 1) := by decide +kernel
theorem d_MD_noteAll_60 : decode b_MD_noteAll 60 = .ok (.iinc 4 1, 3) := by decide +kernel
theorem d_MD_noteAll_63 : decode b_MD_noteAll 63 = .ok (.goto (-58), 3) := by decide +kernel
theorem d_MD_noteAll_66 : decode b_MD_noteAll 66 = .ok (.iload_n 3, 1) := by decide +kernel
theorem d_MD_noteAll_67 : decode b_MD_noteAll 67 = .ok (.ireturn, 1) := by decide +kernel
set_option maxHeartbeats 4000000 in
set_option maxRecDepth 100000 in
theorem c_MD_noteAll (l : Launch) (D : va_G) (cI cZ : ClassId) (ad : Nat → Nat) (i : Nat) (n : Nat) (L : Nat → Prop) (u : tm_SC) (hi : i < 260) (hO : ms_OS u n L) (hr : ms_row u L i) : tm_I l y_MD_noteAll b_MD_noteAll 5 .int ({ frames := 1, cells := 0, slots := 0, locals := 22 } : Room) D (tm_yM cI cZ) (tm_wM ad cI cZ) [.ref (ad 0), .int (nI i), .int (nI n)] u (fun r u' => r = (nI (ms_na u i n 8).2) ∧ u' = (ms_na u i n 8).1) := by
  intro sz
  refine tm_of (Qc := fun A => va_Qi (fun r u' => r = (nI (ms_na u i n 8).2) ∧ u' = (ms_na u i n 8).1) (fun u' t => tm_B D (tm_yM cI cZ) A (tm_wM ad cI cZ u') t) A) (by decide) (Nat.le_of_ble_eq_true rfl) ?_ sz
  intro pg eg sg mg bel met cg A ls X h hl hnm
  have hx := X.1.1
  have hb := X.1.2.1
  have hl : lv_has ls 5 [(0, .ref (ad 0)), (1, .int (nI i)), (2, .int (nI n))] := hl
  refine lv_iload_n hx hb d_MD_noteAll_0 rfl (lv_at hl 2 rfl) ?_
  refine lv_istore_n hx hb d_MD_noteAll_1 rfl hl (by decide) rfl (fun ls (hl : lv_has ls 5 [(3, .int (nI n)), (0, .ref (ad 0)), (1, .int (nI i)), (2, .int (nI n))]) => ?_)
  refine lv_iconst (v := 0) hx hb d_MD_noteAll_2 (by decide) ?_
  refine lv_istore hx hb d_MD_noteAll_3 hl (by decide) rfl (fun ls (hl : lv_has ls 5 [(4, .int (0)), (3, .int (nI n)), (0, .ref (ad 0)), (1, .int (nI i)), (2, .int (nI n))]) => ?_)
  have lp5 : ∀ (nf : Nat) (k : Nat) (H : Heap) (locs : List Loc) (ls : Array Slot), 8 - k < nf → (k ≤ 8) → tm_H D A sg (tm_wM ad cI cZ ((ms_na u i n k).1)) H locs → lv_has ls 5 [(0, .ref (ad 0)), (1, .int (nI i)), (2, .int (nI n)), (3, .int (nI (ms_na u i n k).2)), (4, .int (nI k))] → W pg l eg ({ frames := 1, cells := 0, slots := 0, locals := 22 } : Room) sg mg ([.ref (ad 0), .int (nI i), .int (nI n)] : List Value).toArray bel met cg H locs 0 0 (MQ bel (va_Qi (fun r u' => r = (nI (ms_na u i n 8).2) ∧ u' = (ms_na u i n 8).1) (fun u' t => tm_B D (tm_yM cI cZ) A (tm_wM ad cI cZ u') t) A) ([.ref (ad 0), .int (nI i), .int (nI n)] : List Value).toArray sg 0 0 A) (F0 mg 5 ls []) := by
    intro nf
    induction nf with
    | zero => intro k H locs ls hm; exact absurd hm (Nat.not_lt_zero _)
    | succ nf ih =>
      intro k H locs ls hm hk h hl
      refine lv_iload hx hb d_MD_noteAll_5 (lv_at hl 4 rfl) ?_
      refine lv_bipush (v := 8) hx hb d_MD_noteAll_7 (by decide) ?_
      refine lv_icmp_ge hx hb d_MD_noteAll_9 (tgt := 66) rfl (fun h9t => ?_) (fun h9f => ?_)
      · have e9 : k = 8 := by have := (nI_leI (a := 8) (by decide) (by omega)).mp h9t; omega
        refine lv_iload_n hx hb d_MD_noteAll_66 rfl (lv_at hl 3 rfl) ?_
        exact tm_iret (w := tm_wM ad cI cZ) (u := ((ms_na u i n k).1)) X h (⟨by rw [e9], by rw [e9]⟩) d_MD_noteAll_67
      · have h9 : k < 8 := by have : ¬ 8 ≤ k := fun q => h9f ((nI_leI (a := 8) (by decide) (by omega)).mpr q); omega
        refine lv_aload_n hx hb d_MD_noteAll_12 rfl (lv_at hl 0 rfl) ?_
        refine tm_get X h uw_MD 0 rfl rfl 7 (by decide) kw_579 rfl rfl d_MD_noteAll_13 ?_
        refine lv_iload_n hx hb d_MD_noteAll_16 rfl (lv_at hl 1 rfl) ?_
        refine tm_iald X h 7 0 rfl rfl (i) (by omega) (rfl) (by decide) d_MD_noteAll_17 ?_
        refine lv_iload hx hb d_MD_noteAll_18 (lv_at hl 4 rfl) ?_
        refine lv_ishr hx hb d_MD_noteAll_20 ?_
        refine lv_iconst (v := 1) hx hb d_MD_noteAll_21 (by decide) ?_
        refine lv_iand hx hb d_MD_noteAll_22 ?_
        refine tm_top (y := ms_bt (u.2.1 6 i) (nI k)) (by rw [ms_na_a u i n (by decide) (by decide) k]; rfl) ?_
        refine lv_iconst (v := 1) hx hb d_MD_noteAll_23 (by decide) ?_
        refine lv_icmp_ne hx hb d_MD_noteAll_24 (tgt := 60) rfl (fun h24t => ?_) (fun h24f => ?_)
        · refine lv_iinc (v := nI (k + 1)) hx hb d_MD_noteAll_60 hl (k := 4) rfl (tm_inc k) (by decide) rfl (fun ls (hl : lv_has ls 5 [(4, .int (nI (k + 1))), (0, .ref (ad 0)), (1, .int (nI i)), (2, .int (nI n)), (3, .int (nI (ms_na u i n k).2))]) => ?_)
          refine lv_goto hx hb d_MD_noteAll_63 (tgt := 5) rfl ?_
          exact ih (k + 1) _ _ _ (by omega) (by omega) (by rw [ms_na_0 (Or.inl h24t)]; exact h) (by rw [ms_na_0 (Or.inl h24t)]; exact lv_sub hl [1, 2, 3, 4, 0] rfl)
        · refine lv_aload_n hx hb d_MD_noteAll_27 rfl (lv_at hl 0 rfl) ?_
          refine tm_get X h uw_MD 0 rfl rfl 9 (by decide) kw_581 rfl rfl d_MD_noteAll_28 ?_
          refine lv_bipush (v := 8) hx hb d_MD_noteAll_31 (by decide) ?_
          refine lv_iload_n hx hb d_MD_noteAll_33 rfl (lv_at hl 1 rfl) ?_
          refine lv_imul hx hb d_MD_noteAll_34 ?_
          refine lv_iload hx hb d_MD_noteAll_35 (lv_at hl 4 rfl) ?_
          refine lv_iadd hx hb d_MD_noteAll_37 ?_
          refine tm_zald X h 9 1 rfl rfl (8 * i + k) (by omega) (tm_8ix i k) (by decide) d_MD_noteAll_38 ?_
          refine tm_top (y := u.2.1 8 (8 * i + k)) (by rw [ms_na_a u i n (by decide) (by decide) k]) ?_
          refine lv_if_eq hx hb d_MD_noteAll_39 (tgt := 60) rfl (fun h39t => ?_) (fun h39f => ?_)
          · refine lv_iinc (v := nI (k + 1)) hx hb d_MD_noteAll_60 hl (k := 4) rfl (tm_inc k) (by decide) rfl (fun ls (hl : lv_has ls 5 [(4, .int (nI (k + 1))), (0, .ref (ad 0)), (1, .int (nI i)), (2, .int (nI n)), (3, .int (nI (ms_na u i n k).2))]) => ?_)
            refine lv_goto hx hb d_MD_noteAll_63 (tgt := 5) rfl ?_
            exact ih (k + 1) _ _ _ (by omega) (by omega) (by rw [ms_na_0 (Or.inr h39t)]; exact h) (by rw [ms_na_0 (Or.inr h39t)]; exact lv_sub hl [1, 2, 3, 4, 0] rfl)
          · obtain ⟨c9, hc9, hL9, e9⟩ := hr k h9 h24f h39f
            have en9 : (u.2.1 7 (8 * i + k)).toNatClampNeg = c9 := by rw [e9]; exact nI_clamp (by omega)
            refine lv_aload_n hx hb d_MD_noteAll_42 rfl (lv_at hl 0 rfl) ?_
            refine lv_aload_n hx hb d_MD_noteAll_43 rfl (lv_at hl 0 rfl) ?_
            refine tm_get X h uw_MD 0 rfl rfl 8 (by decide) kw_580 rfl rfl d_MD_noteAll_44 ?_
            refine lv_bipush (v := 8) hx hb d_MD_noteAll_47 (by decide) ?_
            refine lv_iload_n hx hb d_MD_noteAll_49 rfl (lv_at hl 1 rfl) ?_
            refine lv_imul hx hb d_MD_noteAll_50 ?_
            refine lv_iload hx hb d_MD_noteAll_51 (lv_at hl 4 rfl) ?_
            refine lv_iadd hx hb d_MD_noteAll_53 ?_
            refine tm_iald X h 8 0 rfl rfl (8 * i + k) (by omega) (tm_8ix i k) (by decide) d_MD_noteAll_54 ?_
            refine tm_top (y := nI ((u.2.1 7 (8 * i + k)).toNatClampNeg)) (by rw [ms_na_a u i n (by decide) (by decide) k, en9]; exact e9) ?_
            refine lv_iload_n hx hb d_MD_noteAll_55 rfl (lv_at hl 3 rfl) ?_
            refine tm_cIf X h (tm_rV (q0 := 0) X h (c_MD_note l D cI cZ ad ((u.2.1 7 (8 * i + k)).toNatClampNeg) ((ms_na u i n k).2) ((ms_na u i n k).1) (by rw [en9]; omega) (fun hz => (hO.all hr k hk).room (by rw [en9]; exact hc9) hz) _) ki_MD_note kw_731 rfl rfl rfl rfl rfl ⟨by decide, by decide⟩ rfl hl.1 rfl (Nat.le_of_ble_eq_true rfl) d_MD_noteAll_56 ⟨by decide, by decide⟩) (fun H locs h => ?_)
            refine lv_istore_n hx hb d_MD_noteAll_59 rfl hl (by decide) rfl (fun ls (hl : lv_has ls 5 [(3, .int ((nI (ms_noteN ((ms_na u i n k).1) ((u.2.1 7 (8 * i + k)).toNatClampNeg) ((ms_na u i n k).2))))), (0, .ref (ad 0)), (1, .int (nI i)), (2, .int (nI n)), (4, .int (nI k))]) => ?_)
            refine lv_iinc (v := nI (k + 1)) hx hb d_MD_noteAll_60 hl (k := 4) rfl (tm_inc k) (by decide) rfl (fun ls (hl : lv_has ls 5 [(4, .int (nI (k + 1))), (3, .int ((nI (ms_noteN ((ms_na u i n k).1) ((u.2.1 7 (8 * i + k)).toNatClampNeg) ((ms_na u i n k).2))))), (0, .ref (ad 0)), (1, .int (nI i)), (2, .int (nI n))]) => ?_)
            refine lv_goto hx hb d_MD_noteAll_63 (tgt := 5) rfl ?_
            exact ih (k + 1) _ _ _ (by omega) (by omega) (by rw [ms_na_s h24f h39f]; exact h) (by rw [ms_na_s h24f h39f]; exact lv_sub hl [2, 3, 4, 1, 0] rfl)
  exact lp5 _ (0) _ _ _ (Nat.lt_succ_self _) (Nat.zero_le _) h (lv_sub hl [2, 3, 4, 1, 0] rfl)
theorem d_MD_holdsValue_0 : decode b_MD_holdsValue 0 = .ok (.iload_n 0, 1) := by decide +kernel
theorem d_MD_holdsValue_1 : decode b_MD_holdsValue 1 = .ok (.iconst 1, 1) := by decide +kernel
theorem d_MD_holdsValue_2 : decode b_MD_holdsValue 2 = .ok (.if_icmp .eq 8, 3) := by decide +kernel
theorem d_MD_holdsValue_5 : decode b_MD_holdsValue 5 = .ok (.iload_n 0, 1) := by decide +kernel
theorem d_MD_holdsValue_6 : decode b_MD_holdsValue 6 = .ok (.iconst 3, 1) := by decide +kernel
theorem d_MD_holdsValue_7 : decode b_MD_holdsValue 7 = .ok (.if_icmp .ne 7, 3) := by decide +kernel
theorem d_MD_holdsValue_10 : decode b_MD_holdsValue 10 = .ok (.iconst 1, 1) := by decide +kernel
theorem d_MD_holdsValue_11 : decode b_MD_holdsValue 11 = .ok (.goto 4, 3) := by decide +kernel
theorem d_MD_holdsValue_14 : decode b_MD_holdsValue 14 = .ok (.iconst 0, 1) := by decide +kernel
theorem d_MD_holdsValue_15 : decode b_MD_holdsValue 15 = .ok (.ireturn, 1) := by decide +kernel
set_option maxHeartbeats 4000000 in
set_option maxRecDepth 100000 in
theorem c_MD_holdsValue (l : Launch) (D : va_G) (cI cZ : ClassId) (ad : Nat → Nat) (k : Int32) (u : tm_SC)  : tm_I l y_MD_holdsValue b_MD_holdsValue 1 .boolean ({ frames := 0, cells := 0, slots := 0, locals := 0 } : Room) D (tm_yM cI cZ) (tm_wM ad cI cZ) [.int (k)] u (fun r u' => r = (if ms_hv k then 1 else 0) ∧ u' = u) := by
  intro sz
  refine tm_of (Qc := fun A => va_Qi (fun r u' => r = (if ms_hv k then 1 else 0) ∧ u' = u) (fun u' t => tm_B D (tm_yM cI cZ) A (tm_wM ad cI cZ u') t) A) (by decide) (Nat.le_of_ble_eq_true rfl) ?_ sz
  intro pg eg sg mg bel met cg A ls X h hl hnm
  have hx := X.1.1
  have hb := X.1.2.1
  have hl : lv_has ls 1 [(0, .int (k))] := hl
  refine lv_iload_n hx hb d_MD_holdsValue_0 rfl (lv_at hl 0 rfl) ?_
  refine lv_iconst (v := 1) hx hb d_MD_holdsValue_1 (by decide) ?_
  refine lv_icmp_eq hx hb d_MD_holdsValue_2 (tgt := 10) rfl (fun h2t => ?_) (fun h2f => ?_)
  · refine lv_iconst (v := 1) hx hb d_MD_holdsValue_10 (by decide) ?_
    refine lv_goto hx hb d_MD_holdsValue_11 (tgt := 15) rfl ?_
    exact tm_zret (w := tm_wM ad cI cZ) (u := u) X h (rfl) (⟨(if_pos (Or.inl h2t)).symm, rfl⟩) d_MD_holdsValue_15
  · refine lv_iload_n hx hb d_MD_holdsValue_5 rfl (lv_at hl 0 rfl) ?_
    refine lv_iconst (v := 3) hx hb d_MD_holdsValue_6 (by decide) ?_
    refine lv_icmp_ne hx hb d_MD_holdsValue_7 (tgt := 14) rfl (fun h7t => ?_) (fun h7f => ?_)
    · refine lv_iconst (v := 0) hx hb d_MD_holdsValue_14 (by decide) ?_
      exact tm_zret (w := tm_wM ad cI cZ) (u := u) X h (rfl) (⟨(if_neg (fun q => q.elim h2f h7t)).symm, rfl⟩) d_MD_holdsValue_15
    · refine lv_iconst (v := 1) hx hb d_MD_holdsValue_10 (by decide) ?_
      refine lv_goto hx hb d_MD_holdsValue_11 (tgt := 15) rfl ?_
      exact tm_zret (w := tm_wM ad cI cZ) (u := u) X h (rfl) (⟨(if_pos (Or.inr h7f)).symm, rfl⟩) d_MD_holdsValue_15
