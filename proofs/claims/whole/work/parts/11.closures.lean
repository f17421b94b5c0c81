theorem kw_5 : (Jvm.Cond.initialized "TrimmedMachine$Closures") ∈ tm_wa := tm_tb (List.mem_append_left _ (List.mem_of_getElem? (i := 5) (by decide +kernel))) rfl
theorem kw_95 : (Jvm.Cond.fieldLink "TrimmedMachine$Closures" (15 : Nat) "TrimmedMachine$Closures" "lives" "[Z") ∈ tm_wa := tm_tb (List.mem_append_left _ (List.mem_of_getElem? (i := 95) (by decide +kernel))) rfl
theorem kw_96 : (Jvm.Cond.fieldLink "TrimmedMachine$Closures" (19 : Nat) "TrimmedMachine$Closures" "slots" "[I") ∈ tm_wa := tm_tb (List.mem_append_left _ (List.mem_of_getElem? (i := 96) (by decide +kernel))) rfl
theorem kw_98 : (Jvm.Cond.fieldLink "TrimmedMachine$Closures" (22 : Nat) "TrimmedMachine$Closures" "living" "I") ∈ tm_wa := tm_tb (List.mem_append_left _ (List.mem_of_getElem? (i := 98) (by decide +kernel))) rfl
theorem kw_364 : (Jvm.Cond.instanceMethod ({ cls := "TrimmedMachine$Closures", name := "forgetLiving", desc := "()V" } : Jvm.MethodName)) ∈ tm_wa := tm_tb (List.mem_append_right _ (List.mem_append_left _ (List.mem_of_getElem? (i := 124) (by decide +kernel)))) rfl
theorem kw_365 : (Jvm.Cond.code ({ cls := "TrimmedMachine$Closures", name := "forgetLiving", desc := "()V" } : Jvm.MethodName) prog_2_method_2_code (2 : Nat) (Option.none : Option Jvm.ClassFile.FieldType)) ∈ tm_wa := tm_tb (List.mem_append_right _ (List.mem_append_left _ (List.mem_of_getElem? (i := 125) (rfl)))) rfl
theorem kw_387 : (Jvm.Cond.instanceMethod ({ cls := "TrimmedMachine$Closures", name := "noteLiving", desc := "(I)V" } : Jvm.MethodName)) ∈ tm_wa := tm_tb (List.mem_append_right _ (List.mem_append_left _ (List.mem_of_getElem? (i := 147) (by decide +kernel)))) rfl
theorem kw_388 : (Jvm.Cond.code ({ cls := "TrimmedMachine$Closures", name := "noteLiving", desc := "(I)V" } : Jvm.MethodName) prog_2_method_3_code (2 : Nat) (Option.none : Option Jvm.ClassFile.FieldType)) ∈ tm_wa := tm_tb (List.mem_append_right _ (List.mem_append_left _ (List.mem_of_getElem? (i := 148) (rfl)))) rfl
theorem kw_457 : (Jvm.Cond.instanceMethod ({ cls := "TrimmedMachine$Closures", name := "unusedSlot", desc := "()I" } : Jvm.MethodName)) ∈ tm_wa := tm_tb (List.mem_append_right _ (List.mem_append_left _ (List.mem_of_getElem? (i := 217) (by decide +kernel)))) rfl
theorem kw_458 : (Jvm.Cond.code ({ cls := "TrimmedMachine$Closures", name := "unusedSlot", desc := "()I" } : Jvm.MethodName) prog_2_method_4_code (2 : Nat) (Option.some Jvm.ClassFile.FieldType.int)) ∈ tm_wa := tm_tb (List.mem_append_right _ (List.mem_append_left _ (List.mem_of_getElem? (i := 218) (rfl)))) rfl
abbrev y_CL_forgetLiving : MethodName := { cls := "TrimmedMachine$Closures", name := "forgetLiving", desc := "()V" }
abbrev b_CL_forgetLiving : ByteArray := prog_2_method_2_code
theorem ki_CL_forgetLiving : tm_ki y_CL_forgetLiving b_CL_forgetLiving 2 none 0 := ⟨⟨kw_5, kw_365, by decide, by decide, by decide +kernel⟩, kw_364, tm_sel (n := 4) (List.mem_append_left _ (List.mem_of_getElem? (i := 10) rfl))⟩
abbrev y_CL_noteLiving : MethodName := { cls := "TrimmedMachine$Closures", name := "noteLiving", desc := "(I)V" }
abbrev b_CL_noteLiving : ByteArray := prog_2_method_3_code
theorem ki_CL_noteLiving : tm_ki y_CL_noteLiving b_CL_noteLiving 2 none 1 := ⟨⟨kw_5, kw_388, by decide, by decide, by decide +kernel⟩, kw_387, tm_sel (n := 4) (List.mem_append_left _ (List.mem_of_getElem? (i := 14) rfl))⟩
abbrev y_CL_unusedSlot : MethodName := { cls := "TrimmedMachine$Closures", name := "unusedSlot", desc := "()I" }
abbrev b_CL_unusedSlot : ByteArray := prog_2_method_4_code
theorem ki_CL_unusedSlot : tm_ki y_CL_unusedSlot b_CL_unusedSlot 2 (some .int) 0 := ⟨⟨kw_5, kw_458, by decide, by decide, by decide +kernel⟩, kw_457, tm_sel (n := 4) (List.mem_append_right _ (List.mem_append_left _ (List.mem_of_getElem? (i := 6) rfl)))⟩
theorem d_CL_forgetLiving_0 : decode b_CL_forgetLiving 0 = .ok (.iconst 0, 1) := by decide +kernel
theorem d_CL_forgetLiving_1 : decode b_CL_forgetLiving 1 = .ok (.istore_n 1, 1) := by decide +kernel
theorem d_CL_forgetLiving_2 : decode b_CL_forgetLiving 2 = .ok (.iload_n 1, 1) := by decide +kernel
theorem d_CL_forgetLiving_3 : decode b_CL_forgetLiving 3 = .ok (.aload_n 0, 1) := by decide +kernel
theorem d_CL_forgetLiving_4 : decode b_CL_forgetLiving 4 = .ok (.getfield 22, 3) := by decide +kernel
theorem d_CL_forgetLiving_7 : decode b_CL_forgetLiving 7 = .ok (.if_icmp .ge 21, 3) := by decide +kernel
theorem d_CL_forgetLiving_10 : decode b_CL_forgetLiving 10 = .ok (.aload_n 0, 1) := by decide +kernel
theorem d_CL_forgetLiving_11 : decode b_CL_forgetLiving 11 = .ok (.getfield 15, 3) := by decide +kernel
theorem d_CL_forgetLiving_14 : decode b_CL_forgetLiving 14 = .ok (.aload_n 0, 1) := by decide +kernel
theorem d_CL_forgetLiving_15 : decode b_CL_forgetLiving 15 = .ok (.getfield 19, 3) := by decide +kernel
theorem d_CL_forgetLiving_18 : decode b_CL_forgetLiving 18 = .ok (.iload_n 1, 1) := by decide +kernel
theorem d_CL_forgetLiving_19 : decode b_CL_forgetLiving 19 = .ok (.iaload, 1) := by decide +kernel
theorem d_CL_forgetLiving_20 : decode b_CL_forgetLiving 20 = .ok (.iconst 0, 1) := by decide +kernel
theorem d_CL_forgetLiving_21 : decode b_CL_forgetLiving 21 = .ok (.bastore, 1) := by decide +kernel
theorem d_CL_forgetLiving_22 : decode b_CL_forgetLiving 22 = .ok (.iinc 1 1, 3) := by decide +kernel
theorem d_CL_forgetLiving_25 : decode b_CL_forgetLiving 25 = .ok (.goto (-23), 3) := by decide +kernel
theorem d_CL_forgetLiving_28 : decode b_CL_forgetLiving 28 = .ok (.aload_n 0, 1) := by decide +kernel
theorem d_CL_forgetLiving_29 : decode b_CL_forgetLiving 29 = .ok (.iconst 0, 1) := by decide +kernel
theorem d_CL_forgetLiving_30 : decode b_CL_forgetLiving 30 = .ok (.putfield 22, 3) := by decide +kernel
theorem d_CL_forgetLiving_33 : decode b_CL_forgetLiving 33 = .ok (.return_, 1) := by decide +kernel
set_option maxHeartbeats 4000000 in
set_option maxRecDepth 100000 in
theorem c_CL_forgetLiving (l : Launch) (D : va_G) (cI cL cZ : ClassId) (ad : Nat → Nat) (n : Nat) (u : tm_SC) (hn : n ≤ 120) (hv : u.1 10 = nI n) (hs : ∀ j, j < n → vp_in (u.2.1 11 j) 120) : tm_V l y_CL_forgetLiving b_CL_forgetLiving 2 ({ frames := 0, cells := 0, slots := 0, locals := 0 } : Room) D (tm_yC cI cL cZ) (tm_wC ad cI cL cZ) [.ref (ad 14)] u (fun u' => u' = (tm_sf (cs_fgt u n) 10 0)) := by
  intro sz
  refine tm_of (Qc := fun A => va_Qv (fun u' => u' = (tm_sf (cs_fgt u n) 10 0)) (fun u' t => tm_B D (tm_yC cI cL cZ) A (tm_wC ad cI cL cZ u') t) A) (by decide) (Nat.le_of_ble_eq_true rfl) ?_ sz
  intro pg eg sg mg bel met cg A ls X h hl hnm
  have hx := X.1.1
  have hb := X.1.2.1
  have hl : lv_has ls 2 [(0, .ref (ad 14))] := hl
  refine lv_iconst (v := 0) hx hb d_CL_forgetLiving_0 (by decide) ?_
  refine lv_istore_n hx hb d_CL_forgetLiving_1 rfl hl (by decide) rfl (fun ls (hl : lv_has ls 2 [(1, .int (0)), (0, .ref (ad 14))]) => ?_)
  have lp2 : ∀ (nf : Nat) (k : Nat) (H : Heap) (locs : List Loc) (ls : Array Slot), n - k < nf → (k ≤ n) → tm_H D A sg (tm_wC ad cI cL cZ (cs_fgt u k)) H locs → lv_has ls 2 [(0, .ref (ad 14)), (1, .int (nI k))] → W pg l eg ({ frames := 0, cells := 0, slots := 0, locals := 0 } : Room) sg mg ([.ref (ad 14)] : List Value).toArray bel met cg H locs 0 0 (MQ bel (va_Qv (fun u' => u' = (tm_sf (cs_fgt u n) 10 0)) (fun u' t => tm_B D (tm_yC cI cL cZ) A (tm_wC ad cI cL cZ u') t) A) ([.ref (ad 14)] : List Value).toArray sg 0 0 A) (F0 mg 2 ls []) := by
    intro nf
    induction nf with
    | zero => intro k H locs ls hm; exact absurd hm (Nat.not_lt_zero _)
    | succ nf ih =>
      intro k H locs ls hm hk h hl
      refine lv_iload_n hx hb d_CL_forgetLiving_2 rfl (lv_at hl 1 rfl) ?_
      refine lv_aload_n hx hb d_CL_forgetLiving_3 rfl (lv_at hl 0 rfl) ?_
      refine tm_get X h uw_CL 14 rfl rfl 3 (by decide) kw_98 rfl rfl d_CL_forgetLiving_4 ?_
      refine tm_top (y := nI n) ((congrFun (cs_fgt_f u k) 10).trans hv) ?_
      refine lv_icmp_ge hx hb d_CL_forgetLiving_7 (tgt := 28) rfl (fun h7t => ?_) (fun h7f => ?_)
      · have e7 : k = n := by have := (nI_leI (by omega) (by omega)).mp h7t; omega
        refine lv_aload_n hx hb d_CL_forgetLiving_28 rfl (lv_at hl 0 rfl) ?_
        refine lv_iconst (v := 0) hx hb d_CL_forgetLiving_29 (by decide) ?_
        refine tm_put X h uw_CL t_CL t_CL_ok n_CL 14 rfl rfl 3 (by decide) kw_98 rfl rfl (rfl) (rfl) (Nat.le_of_ble_eq_true rfl) (ws' := tm_wC ad cI cL cZ (tm_sf (cs_fgt u k) 10 (0))) rfl d_CL_forgetLiving_30 (fun H locs h => ?_)
        exact tm_vret (w := tm_wC ad cI cL cZ) (u := (tm_sf (cs_fgt u k) 10 (0))) X h (by rw [e7]) d_CL_forgetLiving_33
      · have h7 : k < n := by have : ¬ n ≤ k := fun q => h7f ((nI_leI (by omega) (by omega)).mpr q); omega
        refine lv_aload_n hx hb d_CL_forgetLiving_10 rfl (lv_at hl 0 rfl) ?_
        refine tm_get X h uw_CL 14 rfl rfl 1 (by decide) kw_95 rfl rfl d_CL_forgetLiving_11 ?_
        refine lv_aload_n hx hb d_CL_forgetLiving_14 rfl (lv_at hl 0 rfl) ?_
        refine tm_get X h uw_CL 14 rfl rfl 2 (by decide) kw_96 rfl rfl d_CL_forgetLiving_15 ?_
        refine lv_iload_n hx hb d_CL_forgetLiving_18 rfl (lv_at hl 1 rfl) ?_
        refine tm_iald X h 17 0 rfl rfl (k) (by omega) (rfl) (by decide) d_CL_forgetLiving_19 ?_
        refine lv_iconst (v := 0) hx hb d_CL_forgetLiving_20 (by decide) ?_
        refine tm_zast X h 16 2 rfl rfl ((u.2.1 11 k).toNatClampNeg) ((tm_vin (hs k h7) (by decide)).1) ((congrFun (cs_fgt_11 u k) k).trans (tm_vin (hs k h7) (by decide)).2) (by decide) (rfl) (ws' := tm_wC ad cI cL cZ (tm_sa (cs_fgt u k) 10 ((u.2.1 11 k).toNatClampNeg) (0))) rfl d_CL_forgetLiving_21 (fun H locs h => ?_)
        refine lv_iinc (v := nI (k + 1)) hx hb d_CL_forgetLiving_22 hl (k := 1) rfl (tm_inc k) (by decide) rfl (fun ls (hl : lv_has ls 2 [(1, .int (nI (k + 1))), (0, .ref (ad 14))]) => ?_)
        refine lv_goto hx hb d_CL_forgetLiving_25 (tgt := 2) rfl ?_
        exact ih (k + 1) _ _ _ (by omega) (by omega) h (lv_sub hl [1, 0] rfl)
  exact lp2 _ (0) _ _ _ (Nat.lt_succ_self _) (Nat.zero_le _) h (lv_sub hl [1, 0] rfl)
theorem d_CL_noteLiving_0 : decode b_CL_noteLiving 0 = .ok (.aload_n 0, 1) := by decide +kernel
theorem d_CL_noteLiving_1 : decode b_CL_noteLiving 1 = .ok (.getfield 15, 3) := by decide +kernel
theorem d_CL_noteLiving_4 : decode b_CL_noteLiving 4 = .ok (.iload_n 1, 1) := by decide +kernel
theorem d_CL_noteLiving_5 : decode b_CL_noteLiving 5 = .ok (.baload, 1) := by decide +kernel
theorem d_CL_noteLiving_6 : decode b_CL_noteLiving 6 = .ok (.ifCond .ne 30, 3) := by decide +kernel
theorem d_CL_noteLiving_9 : decode b_CL_noteLiving 9 = .ok (.aload_n 0, 1) := by decide +kernel
theorem d_CL_noteLiving_10 : decode b_CL_noteLiving 10 = .ok (.getfield 15, 3) := by decide +kernel
theorem d_CL_noteLiving_13 : decode b_CL_noteLiving 13 = .ok (.iload_n 1, 1) := by decide +kernel
theorem d_CL_noteLiving_14 : decode b_CL_noteLiving 14 = .ok (.iconst 1, 1) := by decide +kernel
theorem d_CL_noteLiving_15 : decode b_CL_noteLiving 15 = .ok (.bastore, 1) := by decide +kernel
theorem d_CL_noteLiving_16 : decode b_CL_noteLiving 16 = .ok (.aload_n 0, 1) := by decide +kernel
theorem d_CL_noteLiving_17 : decode b_CL_noteLiving 17 = .ok (.getfield 19, 3) := by decide +kernel
theorem d_CL_noteLiving_20 : decode b_CL_noteLiving 20 = .ok (.aload_n 0, 1) := by decide +kernel
theorem d_CL_noteLiving_21 : decode b_CL_noteLiving 21 = .ok (.getfield 22, 3) := by decide +kernel
theorem d_CL_noteLiving_24 : decode b_CL_noteLiving 24 = .ok (.iload_n 1, 1) := by decide +kernel
theorem d_CL_noteLiving_25 : decode b_CL_noteLiving 25 = .ok (.iastore, 1) := by decide +kernel
theorem d_CL_noteLiving_26 : decode b_CL_noteLiving 26 = .ok (.aload_n 0, 1) := by decide +kernel
theorem d_CL_noteLiving_27 : decode b_CL_noteLiving 27 = .ok (.dup, 1) := by decide +kernel
theorem d_CL_noteLiving_28 : decode b_CL_noteLiving 28 = .ok (.getfield 22, 3) := by decide +kernel
theorem d_CL_noteLiving_31 : decode b_CL_noteLiving 31 = .ok (.iconst 1, 1) := by decide +kernel
theorem d_CL_noteLiving_32 : decode b_CL_noteLiving 32 = .ok (.iadd, 1) := by decide +kernel
theorem d_CL_noteLiving_33 : decode b_CL_noteLiving 33 = .ok (.putfield 22, 3) := by decide +kernel
theorem d_CL_noteLiving_36 : decode b_CL_noteLiving 36 = .ok (.return_, 1) := by decide +kernel
set_option maxHeartbeats 4000000 in
set_option maxRecDepth 100000 in
theorem c_CL_noteLiving (l : Launch) (D : va_G) (cI cL cZ : ClassId) (ad : Nat → Nat) (c : Nat) (u : tm_SC) (hc : c < 120) (hv : u.2.1 10 c = 0 → vp_in (u.1 10) 120) : tm_V l y_CL_noteLiving b_CL_noteLiving 2 ({ frames := 0, cells := 0, slots := 0, locals := 0 } : Room) D (tm_yC cI cL cZ) (tm_wC ad cI cL cZ) [.ref (ad 14), .int (nI c)] u (fun u' => u' = (cs_note u c)) := by
  intro sz
  refine tm_of (Qc := fun A => va_Qv (fun u' => u' = (cs_note u c)) (fun u' t => tm_B D (tm_yC cI cL cZ) A (tm_wC ad cI cL cZ u') t) A) (by decide) (Nat.le_of_ble_eq_true rfl) ?_ sz
  intro pg eg sg mg bel met cg A ls X h hl hnm
  have hx := X.1.1
  have hb := X.1.2.1
  have hl : lv_has ls 2 [(0, .ref (ad 14)), (1, .int (nI c))] := hl
  refine lv_aload_n hx hb d_CL_noteLiving_0 rfl (lv_at hl 0 rfl) ?_
  refine tm_get X h uw_CL 14 rfl rfl 1 (by decide) kw_95 rfl rfl d_CL_noteLiving_1 ?_
  refine lv_iload_n hx hb d_CL_noteLiving_4 rfl (lv_at hl 1 rfl) ?_
  refine tm_zald X h 16 2 rfl rfl (c) (by omega) (rfl) (by decide) d_CL_noteLiving_5 ?_
  refine lv_if_ne hx hb d_CL_noteLiving_6 (tgt := 36) rfl (fun h6t => ?_) (fun h6f => ?_)
  · exact tm_vret (w := tm_wC ad cI cL cZ) (u := u) X h ((if_neg h6t).symm) d_CL_noteLiving_36
  · refine lv_aload_n hx hb d_CL_noteLiving_9 rfl (lv_at hl 0 rfl) ?_
    refine tm_get X h uw_CL 14 rfl rfl 1 (by decide) kw_95 rfl rfl d_CL_noteLiving_10 ?_
    refine lv_iload_n hx hb d_CL_noteLiving_13 rfl (lv_at hl 1 rfl) ?_
    refine lv_iconst (v := 1) hx hb d_CL_noteLiving_14 (by decide) ?_
    refine tm_zast X h 16 2 rfl rfl (c) (by omega) (rfl) (by decide) (rfl) (ws' := tm_wC ad cI cL cZ (tm_sa u 10 (c) (1))) rfl d_CL_noteLiving_15 (fun H locs h => ?_)
    refine lv_aload_n hx hb d_CL_noteLiving_16 rfl (lv_at hl 0 rfl) ?_
    refine tm_get X h uw_CL 14 rfl rfl 2 (by decide) kw_96 rfl rfl d_CL_noteLiving_17 ?_
    refine lv_aload_n hx hb d_CL_noteLiving_20 rfl (lv_at hl 0 rfl) ?_
    refine tm_get X h uw_CL 14 rfl rfl 3 (by decide) kw_98 rfl rfl d_CL_noteLiving_21 ?_
    refine lv_iload_n hx hb d_CL_noteLiving_24 rfl (lv_at hl 1 rfl) ?_
    refine tm_iast X h 17 0 rfl rfl ((u.1 10).toNatClampNeg) ((tm_vin (hv h6f) (by decide)).1) ((tm_vin (hv h6f) (by decide)).2) (by decide) (ws' := tm_wC ad cI cL cZ (tm_sa (tm_sa u 10 (c) (1)) 11 ((u.1 10).toNatClampNeg) (nI c))) rfl d_CL_noteLiving_25 (fun H locs h => ?_)
    refine lv_aload_n hx hb d_CL_noteLiving_26 rfl (lv_at hl 0 rfl) ?_
    refine lv_dup hx hb d_CL_noteLiving_27 rfl ?_
    refine tm_get X h uw_CL 14 rfl rfl 3 (by decide) kw_98 rfl rfl d_CL_noteLiving_28 ?_
    refine lv_iconst (v := 1) hx hb d_CL_noteLiving_31 (by decide) ?_
    refine lv_iadd hx hb d_CL_noteLiving_32 ?_
    refine tm_put X h uw_CL t_CL t_CL_ok n_CL 14 rfl rfl 3 (by decide) kw_98 rfl rfl (rfl) (rfl) (Nat.le_of_ble_eq_true rfl) (ws' := tm_wC ad cI cL cZ (tm_sf (tm_sa (tm_sa u 10 (c) (1)) 11 ((u.1 10).toNatClampNeg) (nI c)) 10 (((((tm_sa (tm_sa u 10 (c) (1)) 11 ((u.1 10).toNatClampNeg) (nI c))).1 10) + 1)))) rfl d_CL_noteLiving_33 (fun H locs h => ?_)
    exact tm_vret (w := tm_wC ad cI cL cZ) (u := (tm_sf (tm_sa (tm_sa u 10 (c) (1)) 11 ((u.1 10).toNatClampNeg) (nI c)) 10 (((((tm_sa (tm_sa u 10 (c) (1)) 11 ((u.1 10).toNatClampNeg) (nI c))).1 10) + 1)))) X h ((if_pos h6f).symm) d_CL_noteLiving_36
theorem d_CL_unusedSlot_0 : decode b_CL_unusedSlot 0 = .ok (.iconst 0, 1) := by decide +kernel
theorem d_CL_unusedSlot_1 : decode b_CL_unusedSlot 1 = .ok (.istore_n 1, 1) := by decide +kernel
theorem d_CL_unusedSlot_2 : decode b_CL_unusedSlot 2 = .ok (.iload_n 1, 1) := by decide +kernel
theorem d_CL_unusedSlot_3 : decode b_CL_unusedSlot 3 = .ok (.bipush 120, 2) := by decide +kernel
theorem d_CL_unusedSlot_5 : decode b_CL_unusedSlot 5 = .ok (.if_icmp .ge 18, 3) := by decide +kernel
theorem d_CL_unusedSlot_8 : decode b_CL_unusedSlot 8 = .ok (.aload_n 0, 1) := by decide +kernel
theorem d_CL_unusedSlot_9 : decode b_CL_unusedSlot 9 = .ok (.getfield 15, 3) := by decide +kernel
theorem d_CL_unusedSlot_12 : decode b_CL_unusedSlot 12 = .ok (.iload_n 1, 1) := by decide +kernel
theorem d_CL_unusedSlot_13 : decode b_CL_unusedSlot 13 = .ok (.baload, 1) := by decide +kernel
theorem d_CL_unusedSlot_14 : decode b_CL_unusedSlot 14 = .ok (.ifCond .eq 9, 3) := by decide +kernel
theorem d_CL_unusedSlot_17 : decode b_CL_unusedSlot 17 = .ok (.iinc 1 1, 3) := by decide +kernel
theorem d_CL_unusedSlot_20 : decode b_CL_unusedSlot 20 = .ok (.goto (-18), 3) := by decide +kernel
theorem d_CL_unusedSlot_23 : decode b_CL_unusedSlot 23 = .ok (.iload_n 1, 1) := by decide +kernel
theorem d_CL_unusedSlot_24 : decode b_CL_unusedSlot 24 = .ok (.ireturn, 1) := by decide +kernel
set_option maxHeartbeats 4000000 in
set_option maxRecDepth 100000 in
theorem c_CL_unusedSlot (l : Launch) (D : va_G) (cI cL cZ : ClassId) (ad : Nat → Nat)  (u : tm_SC)  : tm_I l y_CL_unusedSlot b_CL_unusedSlot 2 .int ({ frames := 0, cells := 0, slots := 0, locals := 0 } : Room) D (tm_yC cI cL cZ) (tm_wC ad cI cL cZ) [.ref (ad 14)] u (fun r u' => u' = u ∧ ∃ k, k ≤ 120 ∧ r = nI k ∧ (∀ j, j < k → ¬ u.2.1 10 j = 0) ∧ (k < 120 → u.2.1 10 k = 0)) := by
  intro sz
  refine tm_of (Qc := fun A => va_Qi (fun r u' => u' = u ∧ ∃ k, k ≤ 120 ∧ r = nI k ∧ (∀ j, j < k → ¬ u.2.1 10 j = 0) ∧ (k < 120 → u.2.1 10 k = 0)) (fun u' t => tm_B D (tm_yC cI cL cZ) A (tm_wC ad cI cL cZ u') t) A) (by decide) (Nat.le_of_ble_eq_true rfl) ?_ sz
  intro pg eg sg mg bel met cg A ls X h hl hnm
  have hx := X.1.1
  have hb := X.1.2.1
  have hl : lv_has ls 2 [(0, .ref (ad 14))] := hl
  refine lv_iconst (v := 0) hx hb d_CL_unusedSlot_0 (by decide) ?_
  refine lv_istore_n hx hb d_CL_unusedSlot_1 rfl hl (by decide) rfl (fun ls (hl : lv_has ls 2 [(1, .int (0)), (0, .ref (ad 14))]) => ?_)
  have lp2 : ∀ (nf : Nat) (k : Nat) (H : Heap) (locs : List Loc) (ls : Array Slot), 120 - k < nf → (k ≤ 120) → (∀ j, j < k → ¬ u.2.1 10 j = 0) → tm_H D A sg (tm_wC ad cI cL cZ (u)) H locs → lv_has ls 2 [(0, .ref (ad 14)), (1, .int (nI k))] → W pg l eg ({ frames := 0, cells := 0, slots := 0, locals := 0 } : Room) sg mg ([.ref (ad 14)] : List Value).toArray bel met cg H locs 0 0 (MQ bel (va_Qi (fun r u' => u' = u ∧ ∃ k, k ≤ 120 ∧ r = nI k ∧ (∀ j, j < k → ¬ u.2.1 10 j = 0) ∧ (k < 120 → u.2.1 10 k = 0)) (fun u' t => tm_B D (tm_yC cI cL cZ) A (tm_wC ad cI cL cZ u') t) A) ([.ref (ad 14)] : List Value).toArray sg 0 0 A) (F0 mg 2 ls []) := by
    intro nf
    induction nf with
    | zero => intro k H locs ls hm; exact absurd hm (Nat.not_lt_zero _)
    | succ nf ih =>
      intro k H locs ls hm hk hj h hl
      refine lv_iload_n hx hb d_CL_unusedSlot_2 rfl (lv_at hl 1 rfl) ?_
      refine lv_bipush (v := 120) hx hb d_CL_unusedSlot_3 (by decide) ?_
      refine lv_icmp_ge hx hb d_CL_unusedSlot_5 (tgt := 23) rfl (fun h5t => ?_) (fun h5f => ?_)
      · refine lv_iload_n hx hb d_CL_unusedSlot_23 rfl (lv_at hl 1 rfl) ?_
        exact tm_iret (w := tm_wC ad cI cL cZ) (u := (u)) X h (⟨rfl, k, hk, rfl, hj, fun q => absurd q (by have := (nI_leI (a := 120) (by decide) (by omega)).mp h5t; omega)⟩) d_CL_unusedSlot_24
      · have h5 : k < 120 := by have : ¬ 120 ≤ k := fun q => h5f ((nI_leI (a := 120) (by decide) (by omega)).mpr q); omega
        refine lv_aload_n hx hb d_CL_unusedSlot_8 rfl (lv_at hl 0 rfl) ?_
        refine tm_get X h uw_CL 14 rfl rfl 1 (by decide) kw_95 rfl rfl d_CL_unusedSlot_9 ?_
        refine lv_iload_n hx hb d_CL_unusedSlot_12 rfl (lv_at hl 1 rfl) ?_
        refine tm_zald X h 16 2 rfl rfl (k) (by omega) (rfl) (by decide) d_CL_unusedSlot_13 ?_
        refine lv_if_eq hx hb d_CL_unusedSlot_14 (tgt := 23) rfl (fun h14t => ?_) (fun h14f => ?_)
        · refine lv_iload_n hx hb d_CL_unusedSlot_23 rfl (lv_at hl 1 rfl) ?_
          exact tm_iret (w := tm_wC ad cI cL cZ) (u := (u)) X h (⟨rfl, k, hk, rfl, hj, fun _ => h14t⟩) d_CL_unusedSlot_24
        · refine lv_iinc (v := nI (k + 1)) hx hb d_CL_unusedSlot_17 hl (k := 1) rfl (tm_inc k) (by decide) rfl (fun ls (hl : lv_has ls 2 [(1, .int (nI (k + 1))), (0, .ref (ad 14))]) => ?_)
          refine lv_goto hx hb d_CL_unusedSlot_20 (tgt := 2) rfl ?_
          exact ih (k + 1) _ _ _ (by omega) (by omega) (lt_s hj h14f) h (lv_sub hl [1, 0] rfl)
  exact lp2 _ (0) _ _ _ (Nat.lt_succ_self _) (Nat.zero_le _) (fun j q => absurd q (Nat.not_lt_zero _)) h (lv_sub hl [1, 0] rfl)
