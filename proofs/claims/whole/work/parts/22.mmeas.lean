theorem kw_589 : (Jvm.Cond.fieldLink "TrimmedMachineModel" (104 : Nat) "TrimmedMachineModel" "space" "I") ∈ tm_wa := tm_tb (List.mem_append_right _ (List.mem_append_right _ (List.mem_append_left _ (List.mem_of_getElem? (i := 109) (by decide +kernel))))) rfl
theorem kw_591 : (Jvm.Cond.fieldLink "TrimmedMachineModel" (97 : Nat) "TrimmedMachineModel" "returns" "Z") ∈ tm_wa := tm_tb (List.mem_append_right _ (List.mem_append_right _ (List.mem_append_left _ (List.mem_of_getElem? (i := 111) (by decide +kernel))))) rfl
theorem kw_593 : (Jvm.Cond.fieldLink "TrimmedMachineModel" (110 : Nat) "TrimmedMachineModel" "result" "I") ∈ tm_wa := tm_tb (List.mem_append_right _ (List.mem_append_right _ (List.mem_append_left _ (List.mem_of_getElem? (i := 113) (by decide +kernel))))) rfl
theorem kw_594 : (Jvm.Cond.fieldLink "TrimmedMachineModel" (107 : Nat) "TrimmedMachineModel" "resultCloses" "Z") ∈ tm_wa := tm_tb (List.mem_append_right _ (List.mem_append_right _ (List.mem_append_left _ (List.mem_of_getElem? (i := 114) (by decide +kernel))))) rfl
theorem kw_595 : (Jvm.Cond.fieldLink "TrimmedMachineModel" (116 : Nat) "TrimmedMachineModel" "frames" "I") ∈ tm_wa := tm_tb (List.mem_append_right _ (List.mem_append_right _ (List.mem_append_left _ (List.mem_of_getElem? (i := 115) (by decide +kernel))))) rfl
theorem kw_596 : (Jvm.Cond.fieldLink "TrimmedMachineModel" (47 : Nat) "TrimmedMachineModel" "frame" "[I") ∈ tm_wa := tm_tb (List.mem_append_right _ (List.mem_append_right _ (List.mem_append_left _ (List.mem_of_getElem? (i := 116) (by decide +kernel))))) rfl
theorem kw_599 : (Jvm.Cond.fieldLink "TrimmedMachineModel" (56 : Nat) "TrimmedMachineModel" "kept" "[I") ∈ tm_wa := tm_tb (List.mem_append_right _ (List.mem_append_right _ (List.mem_append_left _ (List.mem_of_getElem? (i := 119) (by decide +kernel))))) rfl
theorem kw_600 : (Jvm.Cond.fieldLink "TrimmedMachineModel" (59 : Nat) "TrimmedMachineModel" "keptCloses" "[Z") ∈ tm_wa := tm_tb (List.mem_append_right _ (List.mem_append_right _ (List.mem_append_left _ (List.mem_of_getElem? (i := 120) (by decide +kernel))))) rfl
theorem kw_726 : (Jvm.Cond.instanceMethod ({ cls := "TrimmedMachineModel", name := "measure", desc := "()V" } : Jvm.MethodName)) ∈ tm_wa := tm_tb (List.mem_append_right _ (List.mem_append_right _ (List.mem_append_right _ (List.mem_of_getElem? (i := 6) (by decide +kernel))))) rfl
theorem kw_727 : (Jvm.Cond.code ({ cls := "TrimmedMachineModel", name := "measure", desc := "()V" } : Jvm.MethodName) prog_8_method_22_code (4 : Nat) (Option.none : Option Jvm.ClassFile.FieldType)) ∈ tm_wa := tm_tb (List.mem_append_right _ (List.mem_append_right _ (List.mem_append_right _ (List.mem_of_getElem? (i := 7) (rfl))))) rfl
theorem kw_728 : (Jvm.Cond.methodLink "TrimmedMachineModel" (101 : Nat) ({ cls := "TrimmedMachineModel", name := "ones", desc := "(I)I" } : Jvm.MethodName)) ∈ tm_wa := tm_tb (List.mem_append_right _ (List.mem_append_right _ (List.mem_append_right _ (List.mem_of_getElem? (i := 8) (by decide +kernel))))) rfl
theorem kw_735 : (Jvm.Cond.methodLink "TrimmedMachineModel" (113 : Nat) ({ cls := "TrimmedMachineModel", name := "noteAll", desc := "(II)I" } : Jvm.MethodName)) ∈ tm_wa := tm_tb (List.mem_append_right _ (List.mem_append_right _ (List.mem_append_right _ (List.mem_of_getElem? (i := 15) (by decide +kernel))))) rfl
theorem kw_739 : (Jvm.Cond.methodLink "TrimmedMachineModel" (119 : Nat) ({ cls := "TrimmedMachineModel", name := "holdsValue", desc := "(I)Z" } : Jvm.MethodName)) ∈ tm_wa := tm_tb (List.mem_append_right _ (List.mem_append_right _ (List.mem_append_right _ (List.mem_of_getElem? (i := 19) (by decide +kernel))))) rfl
abbrev y_MD_measure : MethodName := { cls := "TrimmedMachineModel", name := "measure", desc := "()V" }
abbrev b_MD_measure : ByteArray := prog_8_method_22_code
theorem ki_MD_measure : tm_ki y_MD_measure b_MD_measure 4 none 0 := ⟨⟨kw_6, kw_727, by decide, by decide, by decide +kernel⟩, kw_726, tm_sel (n := 31) (List.mem_append_right _ (List.mem_append_right _ (List.mem_append_left _ (List.mem_of_getElem? (i := 9) rfl))))⟩
theorem d_MD_measure_0 : decode b_MD_measure 0 = .ok (.iconst 0, 1) := by decide +kernel
theorem d_MD_measure_1 : decode b_MD_measure 1 = .ok (.istore_n 1, 1) := by decide +kernel
theorem d_MD_measure_2 : decode b_MD_measure 2 = .ok (.iload_n 1, 1) := by decide +kernel
theorem d_MD_measure_3 : decode b_MD_measure 3 = .ok (.sipush 130, 3) := by decide +kernel
theorem d_MD_measure_6 : decode b_MD_measure 6 = .ok (.if_icmp .ge 16, 3) := by decide +kernel
theorem d_MD_measure_9 : decode b_MD_measure 9 = .ok (.aload_n 0, 1) := by decide +kernel
theorem d_MD_measure_10 : decode b_MD_measure 10 = .ok (.getfield 41, 3) := by decide +kernel
theorem d_MD_measure_13 : decode b_MD_measure 13 = .ok (.iload_n 1, 1) := by decide +kernel
theorem d_MD_measure_14 : decode b_MD_measure 14 = .ok (.iconst 0, 1) := by decide +kernel
theorem d_MD_measure_15 : decode b_MD_measure 15 = .ok (.bastore, 1) := by decide +kernel
theorem d_MD_measure_16 : decode b_MD_measure 16 = .ok (.iinc 1 1, 3) := by decide +kernel
theorem d_MD_measure_19 : decode b_MD_measure 19 = .ok (.goto (-17), 3) := by decide +kernel
theorem d_MD_measure_22 : decode b_MD_measure 22 = .ok (.aload_n 0, 1) := by decide +kernel
theorem d_MD_measure_23 : decode b_MD_measure 23 = .ok (.iconst 0, 1) := by decide +kernel
theorem d_MD_measure_24 : decode b_MD_measure 24 = .ok (.putfield 91, 3) := by decide +kernel
theorem d_MD_measure_27 : decode b_MD_measure 27 = .ok (.iconst 0, 1) := by decide +kernel
theorem d_MD_measure_28 : decode b_MD_measure 28 = .ok (.istore_n 1, 1) := by decide +kernel
theorem d_MD_measure_29 : decode b_MD_measure 29 = .ok (.aload_n 0, 1) := by decide +kernel
theorem d_MD_measure_30 : decode b_MD_measure 30 = .ok (.aload_n 0, 1) := by decide +kernel
theorem d_MD_measure_31 : decode b_MD_measure 31 = .ok (.getfield 97, 3) := by decide +kernel
theorem d_MD_measure_34 : decode b_MD_measure 34 = .ok (.ifCond .eq 7, 3) := by decide +kernel
theorem d_MD_measure_37 : decode b_MD_measure 37 = .ok (.iconst 1, 1) := by decide +kernel
theorem d_MD_measure_38 : decode b_MD_measure 38 = .ok (.goto 12, 3) := by decide +kernel
theorem d_MD_measure_41 : decode b_MD_measure 41 = .ok (.aload_n 0, 1) := by decide +kernel
theorem d_MD_measure_42 : decode b_MD_measure 42 = .ok (.getfield 28, 3) := by decide +kernel
theorem d_MD_measure_45 : decode b_MD_measure 45 = .ok (.iconst 0, 1) := by decide +kernel
theorem d_MD_measure_46 : decode b_MD_measure 46 = .ok (.iaload, 1) := by decide +kernel
theorem d_MD_measure_47 : decode b_MD_measure 47 = .ok (.invokestatic 101, 3) := by decide +kernel
theorem d_MD_measure_50 : decode b_MD_measure 50 = .ok (.putfield 104, 3) := by decide +kernel
theorem d_MD_measure_53 : decode b_MD_measure 53 = .ok (.aload_n 0, 1) := by decide +kernel
theorem d_MD_measure_54 : decode b_MD_measure 54 = .ok (.getfield 97, 3) := by decide +kernel
theorem d_MD_measure_57 : decode b_MD_measure 57 = .ok (.ifCond .eq 23, 3) := by decide +kernel
theorem d_MD_measure_60 : decode b_MD_measure 60 = .ok (.aload_n 0, 1) := by decide +kernel
theorem d_MD_measure_61 : decode b_MD_measure 61 = .ok (.getfield 107, 3) := by decide +kernel
theorem d_MD_measure_64 : decode b_MD_measure 64 = .ok (.ifCond .eq 16, 3) := by decide +kernel
theorem d_MD_measure_67 : decode b_MD_measure 67 = .ok (.aload_n 0, 1) := by decide +kernel
theorem d_MD_measure_68 : decode b_MD_measure 68 = .ok (.aload_n 0, 1) := by decide +kernel
theorem d_MD_measure_69 : decode b_MD_measure 69 = .ok (.getfield 110, 3) := by decide +kernel
theorem d_MD_measure_72 : decode b_MD_measure 72 = .ok (.iload_n 1, 1) := by decide +kernel
theorem d_MD_measure_73 : decode b_MD_measure 73 = .ok (.invokevirtual 94, 3) := by decide +kernel
theorem d_MD_measure_76 : decode b_MD_measure 76 = .ok (.istore_n 1, 1) := by decide +kernel
theorem d_MD_measure_77 : decode b_MD_measure 77 = .ok (.goto 17, 3) := by decide +kernel
theorem d_MD_measure_80 : decode b_MD_measure 80 = .ok (.aload_n 0, 1) := by decide +kernel
theorem d_MD_measure_81 : decode b_MD_measure 81 = .ok (.getfield 97, 3) := by decide +kernel
theorem d_MD_measure_84 : decode b_MD_measure 84 = .ok (.ifCond .ne 10, 3) := by decide +kernel
theorem d_MD_measure_87 : decode b_MD_measure 87 = .ok (.aload_n 0, 1) := by decide +kernel
theorem d_MD_measure_88 : decode b_MD_measure 88 = .ok (.iconst 0, 1) := by decide +kernel
theorem d_MD_measure_89 : decode b_MD_measure 89 = .ok (.iload_n 1, 1) := by decide +kernel
theorem d_MD_measure_90 : decode b_MD_measure 90 = .ok (.invokevirtual 113, 3) := by decide +kernel
theorem d_MD_measure_93 : decode b_MD_measure 93 = .ok (.istore_n 1, 1) := by decide +kernel
theorem d_MD_measure_94 : decode b_MD_measure 94 = .ok (.iconst 0, 1) := by decide +kernel
theorem d_MD_measure_95 : decode b_MD_measure 95 = .ok (.istore_n 2, 1) := by decide +kernel
theorem d_MD_measure_96 : decode b_MD_measure 96 = .ok (.iload_n 2, 1) := by decide +kernel
theorem d_MD_measure_97 : decode b_MD_measure 97 = .ok (.aload_n 0, 1) := by decide +kernel
theorem d_MD_measure_98 : decode b_MD_measure 98 = .ok (.getfield 116, 3) := by decide +kernel
theorem d_MD_measure_101 : decode b_MD_measure 101 = .ok (.if_icmp .ge 86, 3) := by decide +kernel
theorem d_MD_measure_104 : decode b_MD_measure 104 = .ok (.aload_n 0, 1) := by decide +kernel
theorem d_MD_measure_105 : decode b_MD_measure 105 = .ok (.getfield 47, 3) := by decide +kernel
theorem d_MD_measure_108 : decode b_MD_measure 108 = .ok (.iload_n 2, 1) := by decide +kernel
theorem d_MD_measure_109 : decode b_MD_measure 109 = .ok (.iaload, 1) := by decide +kernel
theorem d_MD_measure_110 : decode b_MD_measure 110 = .ok (.invokestatic 119, 3) := by decide +kernel
theorem d_MD_measure_113 : decode b_MD_measure 113 = .ok (.istore_n 3, 1) := by decide +kernel
theorem d_MD_measure_114 : decode b_MD_measure 114 = .ok (.aload_n 0, 1) := by decide +kernel
theorem d_MD_measure_115 : decode b_MD_measure 115 = .ok (.dup, 1) := by decide +kernel
theorem d_MD_measure_116 : decode b_MD_measure 116 = .ok (.getfield 104, 3) := by decide +kernel
theorem d_MD_measure_119 : decode b_MD_measure 119 = .ok (.iload_n 3, 1) := by decide +kernel
theorem d_MD_measure_120 : decode b_MD_measure 120 = .ok (.ifCond .eq 7, 3) := by decide +kernel
theorem d_MD_measure_123 : decode b_MD_measure 123 = .ok (.iconst 2, 1) := by decide +kernel
theorem d_MD_measure_124 : decode b_MD_measure 124 = .ok (.goto 16, 3) := by decide +kernel
theorem d_MD_measure_127 : decode b_MD_measure 127 = .ok (.iconst 1, 1) := by decide +kernel
theorem d_MD_measure_128 : decode b_MD_measure 128 = .ok (.aload_n 0, 1) := by decide +kernel
theorem d_MD_measure_129 : decode b_MD_measure 129 = .ok (.getfield 28, 3) := by decide +kernel
theorem d_MD_measure_132 : decode b_MD_measure 132 = .ok (.iconst 1, 1) := by decide +kernel
theorem d_MD_measure_133 : decode b_MD_measure 133 = .ok (.iload_n 2, 1) := by decide +kernel
theorem d_MD_measure_134 : decode b_MD_measure 134 = .ok (.iadd, 1) := by decide +kernel
theorem d_MD_measure_135 : decode b_MD_measure 135 = .ok (.iaload, 1) := by decide +kernel
theorem d_MD_measure_136 : decode b_MD_measure 136 = .ok (.invokestatic 101, 3) := by decide +kernel
theorem d_MD_measure_139 : decode b_MD_measure 139 = .ok (.iadd, 1) := by decide +kernel
theorem d_MD_measure_140 : decode b_MD_measure 140 = .ok (.iadd, 1) := by decide +kernel
theorem d_MD_measure_141 : decode b_MD_measure 141 = .ok (.putfield 104, 3) := by decide +kernel
theorem d_MD_measure_144 : decode b_MD_measure 144 = .ok (.iload_n 3, 1) := by decide +kernel
theorem d_MD_measure_145 : decode b_MD_measure 145 = .ok (.ifCond .ne 15, 3) := by decide +kernel
theorem d_MD_measure_148 : decode b_MD_measure 148 = .ok (.aload_n 0, 1) := by decide +kernel
theorem d_MD_measure_149 : decode b_MD_measure 149 = .ok (.iconst 1, 1) := by decide +kernel
theorem d_MD_measure_150 : decode b_MD_measure 150 = .ok (.iload_n 2, 1) := by decide +kernel
theorem d_MD_measure_151 : decode b_MD_measure 151 = .ok (.iadd, 1) := by decide +kernel
theorem d_MD_measure_152 : decode b_MD_measure 152 = .ok (.iload_n 1, 1) := by decide +kernel
theorem d_MD_measure_153 : decode b_MD_measure 153 = .ok (.invokevirtual 113, 3) := by decide +kernel
theorem d_MD_measure_156 : decode b_MD_measure 156 = .ok (.istore_n 1, 1) := by decide +kernel
theorem d_MD_measure_157 : decode b_MD_measure 157 = .ok (.goto 24, 3) := by decide +kernel
theorem d_MD_measure_160 : decode b_MD_measure 160 = .ok (.aload_n 0, 1) := by decide +kernel
theorem d_MD_measure_161 : decode b_MD_measure 161 = .ok (.getfield 59, 3) := by decide +kernel
theorem d_MD_measure_164 : decode b_MD_measure 164 = .ok (.iload_n 2, 1) := by decide +kernel
theorem d_MD_measure_165 : decode b_MD_measure 165 = .ok (.baload, 1) := by decide +kernel
theorem d_MD_measure_166 : decode b_MD_measure 166 = .ok (.ifCond .eq 15, 3) := by decide +kernel
theorem d_MD_measure_169 : decode b_MD_measure 169 = .ok (.aload_n 0, 1) := by decide +kernel
theorem d_MD_measure_170 : decode b_MD_measure 170 = .ok (.aload_n 0, 1) := by decide +kernel
theorem d_MD_measure_171 : decode b_MD_measure 171 = .ok (.getfield 56, 3) := by decide +kernel
theorem d_MD_measure_174 : decode b_MD_measure 174 = .ok (.iload_n 2, 1) := by decide +kernel
theorem d_MD_measure_175 : decode b_MD_measure 175 = .ok (.iaload, 1) := by decide +kernel
theorem d_MD_measure_176 : decode b_MD_measure 176 = .ok (.iload_n 1, 1) := by decide +kernel
theorem d_MD_measure_177 : decode b_MD_measure 177 = .ok (.invokevirtual 94, 3) := by decide +kernel
theorem d_MD_measure_180 : decode b_MD_measure 180 = .ok (.istore_n 1, 1) := by decide +kernel
theorem d_MD_measure_181 : decode b_MD_measure 181 = .ok (.iinc 2 1, 3) := by decide +kernel
theorem d_MD_measure_184 : decode b_MD_measure 184 = .ok (.goto (-88), 3) := by decide +kernel
theorem d_MD_measure_187 : decode b_MD_measure 187 = .ok (.iload_n 1, 1) := by decide +kernel
theorem d_MD_measure_188 : decode b_MD_measure 188 = .ok (.ifCond .le 51, 3) := by decide +kernel
theorem d_MD_measure_191 : decode b_MD_measure 191 = .ok (.iinc 1 (-1), 3) := by decide +kernel
theorem d_MD_measure_194 : decode b_MD_measure 194 = .ok (.aload_n 0, 1) := by decide +kernel
theorem d_MD_measure_195 : decode b_MD_measure 195 = .ok (.getfield 44, 3) := by decide +kernel
theorem d_MD_measure_198 : decode b_MD_measure 198 = .ok (.iload_n 1, 1) := by decide +kernel
theorem d_MD_measure_199 : decode b_MD_measure 199 = .ok (.iaload, 1) := by decide +kernel
theorem d_MD_measure_200 : decode b_MD_measure 200 = .ok (.istore_n 2, 1) := by decide +kernel
theorem d_MD_measure_201 : decode b_MD_measure 201 = .ok (.aload_n 0, 1) := by decide +kernel
theorem d_MD_measure_202 : decode b_MD_measure 202 = .ok (.dup, 1) := by decide +kernel
theorem d_MD_measure_203 : decode b_MD_measure 203 = .ok (.getfield 104, 3) := by decide +kernel
theorem d_MD_measure_206 : decode b_MD_measure 206 = .ok (.iconst 1, 1) := by decide +kernel
theorem d_MD_measure_207 : decode b_MD_measure 207 = .ok (.aload_n 0, 1) := by decide +kernel
theorem d_MD_measure_208 : decode b_MD_measure 208 = .ok (.getfield 28, 3) := by decide +kernel
theorem d_MD_measure_211 : decode b_MD_measure 211 = .ok (.sipush 130, 3) := by decide +kernel
theorem d_MD_measure_214 : decode b_MD_measure 214 = .ok (.iload_n 2, 1) := by decide +kernel
theorem d_MD_measure_215 : decode b_MD_measure 215 = .ok (.iadd, 1) := by decide +kernel
theorem d_MD_measure_216 : decode b_MD_measure 216 = .ok (.iaload, 1) := by decide +kernel
theorem d_MD_measure_217 : decode b_MD_measure 217 = .ok (.invokestatic 101, 3) := by decide +kernel
theorem d_MD_measure_220 : decode b_MD_measure 220 = .ok (.iadd, 1) := by decide +kernel
theorem d_MD_measure_221 : decode b_MD_measure 221 = .ok (.iadd, 1) := by decide +kernel
theorem d_MD_measure_222 : decode b_MD_measure 222 = .ok (.putfield 104, 3) := by decide +kernel
theorem d_MD_measure_225 : decode b_MD_measure 225 = .ok (.aload_n 0, 1) := by decide +kernel
theorem d_MD_measure_226 : decode b_MD_measure 226 = .ok (.sipush 130, 3) := by decide +kernel
theorem d_MD_measure_229 : decode b_MD_measure 229 = .ok (.iload_n 2, 1) := by decide +kernel
theorem d_MD_measure_230 : decode b_MD_measure 230 = .ok (.iadd, 1) := by decide +kernel
theorem d_MD_measure_231 : decode b_MD_measure 231 = .ok (.iload_n 1, 1) := by decide +kernel
theorem d_MD_measure_232 : decode b_MD_measure 232 = .ok (.invokevirtual 113, 3) := by decide +kernel
theorem d_MD_measure_235 : decode b_MD_measure 235 = .ok (.istore_n 1, 1) := by decide +kernel
theorem d_MD_measure_236 : decode b_MD_measure 236 = .ok (.goto (-49), 3) := by decide +kernel
theorem d_MD_measure_239 : decode b_MD_measure 239 = .ok (.return_, 1) := by decide +kernel
set_option maxHeartbeats 4000000 in
set_option maxRecDepth 100000 in
theorem c_MD_measure (l : Launch) (D : va_G) (cI cZ : ClassId) (ad : Nat → Nat) (F : Nat) (L : Nat → Prop) (u : tm_SC) (hM : ms_MI u F L) : tm_V l y_MD_measure b_MD_measure 4 ({ frames := 2, cells := 0, slots := 0, locals := 46 } : Room) D (tm_yM cI cZ) (tm_wM ad cI cZ) [.ref (ad 0)] u (fun u' => ms_MP u F L u') := by
  intro sz
  refine tm_of (Qc := fun A => va_Qv (fun u' => ms_MP u F L u') (fun u' t => tm_B D (tm_yM cI cZ) A (tm_wM ad cI cZ u') t) A) (by decide) (Nat.le_of_ble_eq_true rfl) ?_ sz
  intro pg eg sg mg bel met cg A ls X h hl hnm
  have hx := X.1.1
  have hb := X.1.2.1
  have hl : lv_has ls 4 [(0, .ref (ad 0))] := hl
  have lp187 : ∀ (nf : Nat) (K : Nat) (H : Heap) (locs : List Loc) (ls : Array Slot), 2 * (130 - tm_cnt ((ms_it (ms_mf u F) K).1.2.1 10) 130) + (ms_it (ms_mf u F) K).2 < nf → (ms_OS (ms_it (ms_mf u F) K).1 (ms_it (ms_mf u F) K).2 L) → (ms_eq u (ms_it (ms_mf u F) K).1) → (∀ k, k < K → 0 < (ms_it (ms_mf u F) k).2) → tm_H D A sg (tm_wM ad cI cZ ((ms_it (ms_mf u F) K).1)) H locs → lv_has ls 4 [(0, .ref (ad 0)), (1, .int (nI (ms_it (ms_mf u F) K).2))] → W pg l eg ({ frames := 2, cells := 0, slots := 0, locals := 46 } : Room) sg mg ([.ref (ad 0)] : List Value).toArray bel met cg H locs 0 0 (MQ bel (va_Qv (fun u' => ms_MP u F L u') (fun u' t => tm_B D (tm_yM cI cZ) A (tm_wM ad cI cZ u') t) A) ([.ref (ad 0)] : List Value).toArray sg 0 0 A) (F0 mg 187 ls []) := by
    intro nf
    induction nf with
    | zero => intro K H locs ls hm; exact absurd hm (Nat.not_lt_zero _)
    | succ nf ih =>
      intro K H locs ls hm hO he hp h hl
      refine lv_iload_n hx hb d_MD_measure_187 rfl (lv_at hl 1 rfl) ?_
      refine lv_if_le hx hb d_MD_measure_188 (tgt := 239) rfl (fun h188t => ?_) (fun h188f => ?_)
      · exact tm_vret (w := tm_wM ad cI cZ) (u := ((ms_it (ms_mf u F) K).1)) X h (⟨K, hp, by exact (tm_le0 (by have := hO.1; have := tm_cnt_le ((ms_it (ms_mf u F) K).1.2.1 10) 130; omega)).mp h188t, rfl, he⟩) d_MD_measure_239
      · have hpos : 0 < (ms_it (ms_mf u F) K).2 := by have : ¬ (ms_it (ms_mf u F) K).2 = 0 := fun q => h188f ((tm_le0 (by have := hO.1; have := tm_cnt_le ((ms_it (ms_mf u F) K).1.2.1 10) 130; omega)).mpr q); omega
        have hcn := tm_cnt_le ((ms_it (ms_mf u F) K).1.2.1 10) 130
        have hO1 := hO.1
        obtain ⟨c9, hc9, hL9, e9⟩ := hO.2 ((ms_it (ms_mf u F) K).2 - 1) (by omega)
        have en9 : ((ms_it (ms_mf u F) K).1.2.1 11 ((ms_it (ms_mf u F) K).2 - 1)).toNatClampNeg = c9 := by rw [e9]; exact nI_clamp (by omega)
        refine lv_iinc (v := nI ((ms_it (ms_mf u F) K).2 - 1)) hx hb d_MD_measure_191 hl (k := 1) rfl (tm_dec hpos) (by decide) rfl (fun ls (hl : lv_has ls 4 [(1, .int (nI ((ms_it (ms_mf u F) K).2 - 1))), (0, .ref (ad 0))]) => ?_)
        refine lv_aload_n hx hb d_MD_measure_194 rfl (lv_at hl 1 rfl) ?_
        refine tm_get X h uw_MD 0 rfl rfl 12 (by decide) kw_584 rfl rfl d_MD_measure_195 ?_
        refine lv_iload_n hx hb d_MD_measure_198 rfl (lv_at hl 0 rfl) ?_
        refine tm_iald X h 12 0 rfl rfl ((ms_it (ms_mf u F) K).2 - 1) (by omega) (rfl) (by decide) d_MD_measure_199 ?_
        refine tm_top (y := nI (((ms_it (ms_mf u F) K).1.2.1 11 ((ms_it (ms_mf u F) K).2 - 1)).toNatClampNeg)) (by rw [en9]; exact e9) ?_
        refine lv_istore_n hx hb d_MD_measure_200 rfl hl (by decide) rfl (fun ls (hl : lv_has ls 4 [(2, .int (nI (((ms_it (ms_mf u F) K).1.2.1 11 ((ms_it (ms_mf u F) K).2 - 1)).toNatClampNeg))), (1, .int (nI ((ms_it (ms_mf u F) K).2 - 1))), (0, .ref (ad 0))]) => ?_)
        refine lv_aload_n hx hb d_MD_measure_201 rfl (lv_at hl 2 rfl) ?_
        refine lv_dup hx hb d_MD_measure_202 rfl ?_
        refine tm_get X h uw_MD 0 rfl rfl 17 (by decide) kw_589 rfl rfl d_MD_measure_203 ?_
        refine lv_iconst (v := 1) hx hb d_MD_measure_206 (by decide) ?_
        refine lv_aload_n hx hb d_MD_measure_207 rfl (lv_at hl 2 rfl) ?_
        refine tm_get X h uw_MD 0 rfl rfl 7 (by decide) kw_579 rfl rfl d_MD_measure_208 ?_
        refine lv_sipush (v := 130) hx hb d_MD_measure_211 (by decide) ?_
        refine lv_iload_n hx hb d_MD_measure_214 rfl (lv_at hl 0 rfl) ?_
        refine lv_iadd hx hb d_MD_measure_215 ?_
        refine tm_iald X h 7 0 rfl rfl (130 + ((ms_it (ms_mf u F) K).1.2.1 11 ((ms_it (ms_mf u F) K).2 - 1)).toNatClampNeg) (by omega) (nI_add 130 _) (by decide) d_MD_measure_216 ?_
        refine tm_cIf X h (tm_rS X h (c_MD_ones l D cI cZ ad (((((ms_it (ms_mf u F) K).1)).2.1 6 (130 + ((ms_it (ms_mf u F) K).1.2.1 11 ((ms_it (ms_mf u F) K).2 - 1)).toNatClampNeg))) ((ms_it (ms_mf u F) K).1)  _) ks_MD_ones kw_728 rfl rfl ⟨by decide, by decide⟩ rfl hl.1 rfl (Nat.le_of_ble_eq_true rfl) d_MD_measure_217 ⟨by decide, by decide⟩) (fun H locs h => ?_)
        refine lv_iadd hx hb d_MD_measure_220 ?_
        refine lv_iadd hx hb d_MD_measure_221 ?_
        refine tm_put X h uw_MD t_MD t_MD_ok n_MD 0 rfl rfl 17 (by decide) kw_589 rfl rfl (rfl) (rfl) (Nat.le_of_ble_eq_true rfl) (ws' := tm_wM ad cI cZ (tm_sf ((ms_it (ms_mf u F) K).1) 5 ((((((ms_it (ms_mf u F) K).1)).1 5) + (1 + (ms_ones (((((ms_it (ms_mf u F) K).1)).2.1 6 (130 + ((ms_it (ms_mf u F) K).1.2.1 11 ((ms_it (ms_mf u F) K).2 - 1)).toNatClampNeg))) 8)))))) rfl d_MD_measure_222 (fun H locs h => ?_)
        refine lv_aload_n hx hb d_MD_measure_225 rfl (lv_at hl 2 rfl) ?_
        refine lv_sipush (v := 130) hx hb d_MD_measure_226 (by decide) ?_
        refine lv_iload_n hx hb d_MD_measure_229 rfl (lv_at hl 0 rfl) ?_
        refine lv_iadd hx hb d_MD_measure_230 ?_
        refine tm_top (y := nI (130 + ((ms_it (ms_mf u F) K).1.2.1 11 ((ms_it (ms_mf u F) K).2 - 1)).toNatClampNeg)) (nI_add 130 _) ?_
        refine lv_iload_n hx hb d_MD_measure_231 rfl (lv_at hl 1 rfl) ?_
        refine tm_cIf X h (tm_rV (q0 := 0) X h (c_MD_noteAll l D cI cZ ad (130 + ((ms_it (ms_mf u F) K).1.2.1 11 ((ms_it (ms_mf u F) K).2 - 1)).toNatClampNeg) ((ms_it (ms_mf u F) K).2 - 1) (L) (tm_sf ((ms_it (ms_mf u F) K).1) 5 ((((((ms_it (ms_mf u F) K).1)).1 5) + (1 + (ms_ones (((((ms_it (ms_mf u F) K).1)).2.1 6 (130 + ((ms_it (ms_mf u F) K).1.2.1 11 ((ms_it (ms_mf u F) K).2 - 1)).toNatClampNeg))) 8))))) (by omega) (⟨Nat.le_trans (Nat.sub_le _ _) hO.1, fun j hj => hO.2 j (by omega)⟩) (((he.tr (ms_eq.sp _ _)).row (by rw [en9]; exact hM.2.2.2.2.2 c9 hc9 hL9))) _) ki_MD_noteAll kw_735 rfl rfl rfl rfl rfl ⟨by decide, by decide⟩ rfl hl.1 rfl (Nat.le_of_ble_eq_true rfl) d_MD_measure_232 ⟨by decide, by decide⟩) (fun H locs h => ?_)
        refine lv_istore_n hx hb d_MD_measure_235 rfl hl (by decide) rfl (fun ls (hl : lv_has ls 4 [(1, .int ((nI (ms_na (tm_sf ((ms_it (ms_mf u F) K).1) 5 ((((((ms_it (ms_mf u F) K).1)).1 5) + (1 + (ms_ones (((((ms_it (ms_mf u F) K).1)).2.1 6 (130 + ((ms_it (ms_mf u F) K).1.2.1 11 ((ms_it (ms_mf u F) K).2 - 1)).toNatClampNeg))) 8))))) (130 + ((ms_it (ms_mf u F) K).1.2.1 11 ((ms_it (ms_mf u F) K).2 - 1)).toNatClampNeg) ((ms_it (ms_mf u F) K).2 - 1) 8).2))), (2, .int (nI (((ms_it (ms_mf u F) K).1.2.1 11 ((ms_it (ms_mf u F) K).2 - 1)).toNatClampNeg))), (0, .ref (ad 0))]) => ?_)
        refine lv_goto hx hb d_MD_measure_236 (tgt := 187) rfl ?_
        exact ih (K + 1) _ _ _ (by have := ms_one_mu hM he hO hpos; exact Nat.lt_of_lt_of_le this (Nat.le_of_lt_succ hm)) (ms_one_OS hM he hO hpos) (he.tr (ms_eq.one _)) (lt_s hp hpos) h (lv_sub hl [2, 0] rfl)
  have lp96 : ∀ (nf : Nat) (f : Nat) (H : Heap) (locs : List Loc) (ls : Array Slot), F - f < nf → (f ≤ F) → tm_H D A sg (tm_wM ad cI cZ ((ms_mf u f).1)) H locs → lv_has ls 4 [(0, .ref (ad 0)), (1, .int (nI (ms_mf u f).2)), (2, .int (nI f))] → W pg l eg ({ frames := 2, cells := 0, slots := 0, locals := 46 } : Room) sg mg ([.ref (ad 0)] : List Value).toArray bel met cg H locs 0 0 (MQ bel (va_Qv (fun u' => ms_MP u F L u') (fun u' t => tm_B D (tm_yM cI cZ) A (tm_wM ad cI cZ u') t) A) ([.ref (ad 0)] : List Value).toArray sg 0 0 A) (F0 mg 96 ls []) := by
    intro nf
    induction nf with
    | zero => intro f H locs ls hm; exact absurd hm (Nat.not_lt_zero _)
    | succ nf ih =>
      intro f H locs ls hm hf h hl
      refine lv_iload_n hx hb d_MD_measure_96 rfl (lv_at hl 2 rfl) ?_
      refine lv_aload_n hx hb d_MD_measure_97 rfl (lv_at hl 0 rfl) ?_
      refine tm_get X h uw_MD 0 rfl rfl 23 (by decide) kw_595 rfl rfl d_MD_measure_98 ?_
      refine tm_top (y := nI F) (((ms_eq.mf u f).2 11 (by decide) (by decide)).trans hM.1) ?_
      refine lv_icmp_ge hx hb d_MD_measure_101 (tgt := 187) rfl (fun h101t => ?_) (fun h101f => ?_)
      · have e101 : f = F := by have := (nI_leI (by have := hM.2.1; omega) (by have := hM.2.1; omega)).mp h101t; omega
        exact lp187 _ (0) _ _ _ (Nat.lt_succ_self _) (ms_mf_OS hM F (Nat.le_refl _)) (ms_eq.mf u F) (fun k q => absurd q (Nat.not_lt_zero _)) (by rw [e101] at h; exact h) (by rw [e101] at hl; exact lv_sub hl [0, 1] rfl)
      · have h101 : f < F := by have : ¬ F ≤ f := fun q => h101f ((nI_leI (by have := hM.2.1; omega) (by have := hM.2.1; omega)).mpr q); omega
        have hF9 := hM.2.1
        have e12 := congrFun ((ms_eq.mf u f).1 12 (by decide) (by decide)) f
        have e15 := congrFun ((ms_eq.mf u f).1 15 (by decide) (by decide)) f
        have e16 := congrFun ((ms_eq.mf u f).1 16 (by decide) (by decide)) f
        refine lv_aload_n hx hb d_MD_measure_104 rfl (lv_at hl 0 rfl) ?_
        refine tm_get X h uw_MD 0 rfl rfl 24 (by decide) kw_596 rfl rfl d_MD_measure_105 ?_
        refine lv_iload_n hx hb d_MD_measure_108 rfl (lv_at hl 2 rfl) ?_
        refine tm_iald X h 13 0 rfl rfl (f) (by omega) (rfl) (by decide) d_MD_measure_109 ?_
        refine tm_cIf X h (tm_rS X h (c_MD_holdsValue l D cI cZ ad (((((ms_mf u f).1)).2.1 12 (f))) ((ms_mf u f).1)  _) ks_MD_holdsValue kw_739 rfl rfl ⟨by decide, by decide⟩ rfl hl.1 rfl (Nat.le_of_ble_eq_true rfl) d_MD_measure_110 ⟨by decide, by decide⟩) (fun H locs h => ?_)
        refine lv_istore_n hx hb d_MD_measure_113 rfl hl (by decide) rfl (fun ls (hl : lv_has ls 4 [(3, .int ((if ms_hv (((((ms_mf u f).1)).2.1 12 (f))) then 1 else 0))), (0, .ref (ad 0)), (1, .int (nI (ms_mf u f).2)), (2, .int (nI f))]) => ?_)
        refine lv_aload_n hx hb d_MD_measure_114 rfl (lv_at hl 1 rfl) ?_
        refine lv_dup hx hb d_MD_measure_115 rfl ?_
        refine tm_get X h uw_MD 0 rfl rfl 17 (by decide) kw_589 rfl rfl d_MD_measure_116 ?_
        refine lv_iload_n hx hb d_MD_measure_119 rfl (lv_at hl 0 rfl) ?_
        refine lv_if_eq hx hb d_MD_measure_120 (tgt := 127) rfl (fun h120t => ?_) (fun h120f => ?_)
        · refine lv_iconst (v := 1) hx hb d_MD_measure_127 (by decide) ?_
          refine lv_aload_n hx hb d_MD_measure_128 rfl (lv_at hl 1 rfl) ?_
          refine tm_get X h uw_MD 0 rfl rfl 7 (by decide) kw_579 rfl rfl d_MD_measure_129 ?_
          refine lv_iconst (v := 1) hx hb d_MD_measure_132 (by decide) ?_
          refine lv_iload_n hx hb d_MD_measure_133 rfl (lv_at hl 3 rfl) ?_
          refine lv_iadd hx hb d_MD_measure_134 ?_
          refine tm_iald X h 7 0 rfl rfl (1 + f) (by omega) (nI_add 1 f) (by decide) d_MD_measure_135 ?_
          refine tm_cIf X h (tm_rS X h (c_MD_ones l D cI cZ ad (((((ms_mf u f).1)).2.1 6 (1 + f))) ((ms_mf u f).1)  _) ks_MD_ones kw_728 rfl rfl ⟨by decide, by decide⟩ rfl hl.1 rfl (Nat.le_of_ble_eq_true rfl) d_MD_measure_136 ⟨by decide, by decide⟩) (fun H locs h => ?_)
          refine lv_iadd hx hb d_MD_measure_139 ?_
          refine tm_top (y := (if ms_hv ((ms_mf u f).1.2.1 12 f) then 2 else 1 + ms_ones ((ms_mf u f).1.2.1 6 (1 + f)) 8)) ((if_neg (tm_ite1.mp h120t)).symm) ?_
          refine lv_iadd hx hb d_MD_measure_140 ?_
          refine tm_put X h uw_MD t_MD t_MD_ok n_MD 0 rfl rfl 17 (by decide) kw_589 rfl rfl (rfl) (rfl) (Nat.le_of_ble_eq_true rfl) (ws' := tm_wM ad cI cZ (tm_sf ((ms_mf u f).1) 5 ((((((ms_mf u f).1)).1 5) + (if ms_hv ((ms_mf u f).1.2.1 12 f) then 2 else 1 + ms_ones ((ms_mf u f).1.2.1 6 (1 + f)) 8))))) rfl d_MD_measure_141 (fun H locs h => ?_)
          refine lv_iload_n hx hb d_MD_measure_144 rfl (lv_at hl 0 rfl) ?_
          refine lv_if_ne hx hb d_MD_measure_145 (tgt := 160) rfl (fun q => absurd (h120t) q) (fun _ => ?_)
          refine lv_aload_n hx hb d_MD_measure_148 rfl (lv_at hl 1 rfl) ?_
          refine lv_iconst (v := 1) hx hb d_MD_measure_149 (by decide) ?_
          refine lv_iload_n hx hb d_MD_measure_150 rfl (lv_at hl 3 rfl) ?_
          refine lv_iadd hx hb d_MD_measure_151 ?_
          refine tm_top (y := nI (1 + f)) (nI_add 1 f) ?_
          refine lv_iload_n hx hb d_MD_measure_152 rfl (lv_at hl 2 rfl) ?_
          refine tm_cIf X h (tm_rV (q0 := 0) X h (c_MD_noteAll l D cI cZ ad (1 + f) ((ms_mf u f).2) (L) (tm_sf ((ms_mf u f).1) 5 ((((((ms_mf u f).1)).1 5) + (if ms_hv ((ms_mf u f).1.2.1 12 f) then 2 else 1 + ms_ones ((ms_mf u f).1.2.1 6 (1 + f)) 8)))) (by omega) ((ms_mf_OS hM f hf).put 5 _) (((ms_eq.mf u f).tr (ms_eq.sp _ _)).row ((hM.2.2.2.2.1 f h101).2 (e12 ▸ tm_ite1.mp h120t))) _) ki_MD_noteAll kw_735 rfl rfl rfl rfl rfl ⟨by decide, by decide⟩ rfl hl.1 rfl (Nat.le_of_ble_eq_true rfl) d_MD_measure_153 ⟨by decide, by decide⟩) (fun H locs h => ?_)
          refine lv_istore_n hx hb d_MD_measure_156 rfl hl (by decide) rfl (fun ls (hl : lv_has ls 4 [(1, .int ((nI (ms_na (tm_sf ((ms_mf u f).1) 5 ((((((ms_mf u f).1)).1 5) + (if ms_hv ((ms_mf u f).1.2.1 12 f) then 2 else 1 + ms_ones ((ms_mf u f).1.2.1 6 (1 + f)) 8)))) (1 + f) ((ms_mf u f).2) 8).2))), (3, .int ((if ms_hv (((((ms_mf u f).1)).2.1 12 (f))) then 1 else 0))), (0, .ref (ad 0)), (2, .int (nI f))]) => ?_)
          refine lv_goto hx hb d_MD_measure_157 (tgt := 181) rfl ?_
          refine lv_iinc (v := nI (f + 1)) hx hb d_MD_measure_181 hl (k := 3) rfl (tm_inc f) (by decide) rfl (fun ls (hl : lv_has ls 4 [(2, .int (nI (f + 1))), (1, .int ((nI (ms_na (tm_sf ((ms_mf u f).1) 5 ((((((ms_mf u f).1)).1 5) + (if ms_hv ((ms_mf u f).1.2.1 12 f) then 2 else 1 + ms_ones ((ms_mf u f).1.2.1 6 (1 + f)) 8)))) (1 + f) ((ms_mf u f).2) 8).2))), (3, .int ((if ms_hv (((((ms_mf u f).1)).2.1 12 (f))) then 1 else 0))), (0, .ref (ad 0))]) => ?_)
          refine lv_goto hx hb d_MD_measure_184 (tgt := 96) rfl ?_
          exact ih (f + 1) _ _ _ (by omega) (by omega) (by rw [show ms_mf u (f + 1) = _ from if_neg (tm_ite1.mp h120t)]; exact h) (by rw [show ms_mf u (f + 1) = _ from if_neg (tm_ite1.mp h120t)]; exact lv_sub hl [3, 1, 0] rfl)
        · refine lv_iconst (v := 2) hx hb d_MD_measure_123 (by decide) ?_
          refine lv_goto hx hb d_MD_measure_124 (tgt := 140) rfl ?_
          refine tm_top (y := (if ms_hv ((ms_mf u f).1.2.1 12 f) then 2 else 1 + ms_ones ((ms_mf u f).1.2.1 6 (1 + f)) 8)) ((if_pos (Classical.not_not.mp (fun q => h120f (tm_ite1.mpr q)))).symm) ?_
          refine lv_iadd hx hb d_MD_measure_140 ?_
          refine tm_put X h uw_MD t_MD t_MD_ok n_MD 0 rfl rfl 17 (by decide) kw_589 rfl rfl (rfl) (rfl) (Nat.le_of_ble_eq_true rfl) (ws' := tm_wM ad cI cZ (tm_sf ((ms_mf u f).1) 5 ((((((ms_mf u f).1)).1 5) + (if ms_hv ((ms_mf u f).1.2.1 12 f) then 2 else 1 + ms_ones ((ms_mf u f).1.2.1 6 (1 + f)) 8))))) rfl d_MD_measure_141 (fun H locs h => ?_)
          refine lv_iload_n hx hb d_MD_measure_144 rfl (lv_at hl 0 rfl) ?_
          refine lv_if_ne hx hb d_MD_measure_145 (tgt := 160) rfl (fun _ => ?_) (fun q => absurd q (h120f))
          have hv9 := Classical.not_not.mp (fun q => h120f (tm_ite1.mpr q))
          refine lv_aload_n hx hb d_MD_measure_160 rfl (lv_at hl 1 rfl) ?_
          refine tm_get X h uw_MD 0 rfl rfl 28 (by decide) kw_600 rfl rfl d_MD_measure_161 ?_
          refine lv_iload_n hx hb d_MD_measure_164 rfl (lv_at hl 3 rfl) ?_
          refine tm_zald X h 17 1 rfl rfl (f) (by omega) (rfl) (by decide) d_MD_measure_165 ?_
          refine lv_if_eq hx hb d_MD_measure_166 (tgt := 181) rfl (fun h166t => ?_) (fun h166f => ?_)
          · refine lv_iinc (v := nI (f + 1)) hx hb d_MD_measure_181 hl (k := 3) rfl (tm_inc f) (by decide) rfl (fun ls (hl : lv_has ls 4 [(2, .int (nI (f + 1))), (3, .int ((if ms_hv (((((ms_mf u f).1)).2.1 12 (f))) then 1 else 0))), (0, .ref (ad 0)), (1, .int (nI (ms_mf u f).2))]) => ?_)
            refine lv_goto hx hb d_MD_measure_184 (tgt := 96) rfl ?_
            exact ih (f + 1) _ _ _ (by omega) (by omega) (by rw [show ms_mf u (f + 1) = _ from (if_pos hv9).trans (if_pos h166t)]; exact h) (by rw [show ms_mf u (f + 1) = _ from (if_pos hv9).trans (if_pos h166t)]; exact lv_sub hl [2, 3, 0] rfl)
          · refine lv_aload_n hx hb d_MD_measure_169 rfl (lv_at hl 1 rfl) ?_
            refine lv_aload_n hx hb d_MD_measure_170 rfl (lv_at hl 1 rfl) ?_
            refine tm_get X h uw_MD 0 rfl rfl 27 (by decide) kw_599 rfl rfl d_MD_measure_171 ?_
            refine lv_iload_n hx hb d_MD_measure_174 rfl (lv_at hl 3 rfl) ?_
            refine tm_iald X h 16 0 rfl rfl (f) (by omega) (rfl) (by decide) d_MD_measure_175 ?_
            refine tm_top (y := nI (((ms_mf u f).1.2.1 15 f).toNatClampNeg)) (by obtain ⟨c, hc, _, e⟩ := (hM.2.2.2.2.1 f h101).1 (e12 ▸ hv9) (e16 ▸ h166f); show (ms_mf u f).1.2.1 15 f = _; rw [e15, e, nI_clamp (by omega)]) ?_
            refine lv_iload_n hx hb d_MD_measure_176 rfl (lv_at hl 2 rfl) ?_
            refine tm_cIf X h (tm_rV (q0 := 0) X h (c_MD_note l D cI cZ ad (((ms_mf u f).1.2.1 15 f).toNatClampNeg) ((ms_mf u f).2) (tm_sf ((ms_mf u f).1) 5 ((((((ms_mf u f).1)).1 5) + (if ms_hv ((ms_mf u f).1.2.1 12 f) then 2 else 1 + ms_ones ((ms_mf u f).1.2.1 6 (1 + f)) 8)))) (by obtain ⟨c, hc, _, e⟩ := (hM.2.2.2.2.1 f h101).1 (e12 ▸ hv9) (e16 ▸ h166f); rw [e15, e, nI_clamp (by omega)]; omega) (fun hz => by obtain ⟨c, hc, _, e⟩ := (hM.2.2.2.2.1 f h101).1 (e12 ▸ hv9) (e16 ▸ h166f); rw [e15, e, nI_clamp (by omega)] at hz; exact ((ms_mf_OS hM f hf).put 5 _).room hc hz) _) ki_MD_note kw_731 rfl rfl rfl rfl rfl ⟨by decide, by decide⟩ rfl hl.1 rfl (Nat.le_of_ble_eq_true rfl) d_MD_measure_177 ⟨by decide, by decide⟩) (fun H locs h => ?_)
            refine lv_istore_n hx hb d_MD_measure_180 rfl hl (by decide) rfl (fun ls (hl : lv_has ls 4 [(1, .int ((nI (ms_noteN (tm_sf ((ms_mf u f).1) 5 ((((((ms_mf u f).1)).1 5) + (if ms_hv ((ms_mf u f).1.2.1 12 f) then 2 else 1 + ms_ones ((ms_mf u f).1.2.1 6 (1 + f)) 8)))) (((ms_mf u f).1.2.1 15 f).toNatClampNeg) ((ms_mf u f).2))))), (3, .int ((if ms_hv (((((ms_mf u f).1)).2.1 12 (f))) then 1 else 0))), (0, .ref (ad 0)), (2, .int (nI f))]) => ?_)
            refine lv_iinc (v := nI (f + 1)) hx hb d_MD_measure_181 hl (k := 3) rfl (tm_inc f) (by decide) rfl (fun ls (hl : lv_has ls 4 [(2, .int (nI (f + 1))), (1, .int ((nI (ms_noteN (tm_sf ((ms_mf u f).1) 5 ((((((ms_mf u f).1)).1 5) + (if ms_hv ((ms_mf u f).1.2.1 12 f) then 2 else 1 + ms_ones ((ms_mf u f).1.2.1 6 (1 + f)) 8)))) (((ms_mf u f).1.2.1 15 f).toNatClampNeg) ((ms_mf u f).2))))), (3, .int ((if ms_hv (((((ms_mf u f).1)).2.1 12 (f))) then 1 else 0))), (0, .ref (ad 0))]) => ?_)
            refine lv_goto hx hb d_MD_measure_184 (tgt := 96) rfl ?_
            exact ih (f + 1) _ _ _ (by omega) (by omega) (by rw [show ms_mf u (f + 1) = _ from (if_pos hv9).trans (if_neg h166f)]; exact h) (by rw [show ms_mf u (f + 1) = _ from (if_pos hv9).trans (if_neg h166f)]; exact lv_sub hl [3, 1, 0] rfl)
  refine lv_iconst (v := 0) hx hb d_MD_measure_0 (by decide) ?_
  refine lv_istore_n hx hb d_MD_measure_1 rfl hl (by decide) rfl (fun ls (hl : lv_has ls 4 [(1, .int (0)), (0, .ref (ad 0))]) => ?_)
  have lp2 : ∀ (nf : Nat) (k : Nat) (H : Heap) (locs : List Loc) (ls : Array Slot), 130 - k < nf → (k ≤ 130) → tm_H D A sg (tm_wM ad cI cZ (ms_clr u k)) H locs → lv_has ls 4 [(0, .ref (ad 0)), (1, .int (nI k))] → W pg l eg ({ frames := 2, cells := 0, slots := 0, locals := 46 } : Room) sg mg ([.ref (ad 0)] : List Value).toArray bel met cg H locs 0 0 (MQ bel (va_Qv (fun u' => ms_MP u F L u') (fun u' t => tm_B D (tm_yM cI cZ) A (tm_wM ad cI cZ u') t) A) ([.ref (ad 0)] : List Value).toArray sg 0 0 A) (F0 mg 2 ls []) := by
    intro nf
    induction nf with
    | zero => intro k H locs ls hm; exact absurd hm (Nat.not_lt_zero _)
    | succ nf ih =>
      intro k H locs ls hm hk h hl
      refine lv_iload_n hx hb d_MD_measure_2 rfl (lv_at hl 1 rfl) ?_
      refine lv_sipush (v := 130) hx hb d_MD_measure_3 (by decide) ?_
      refine lv_icmp_ge hx hb d_MD_measure_6 (tgt := 22) rfl (fun h6t => ?_) (fun h6f => ?_)
      · have e6 : k = 130 := by have := (nI_leI (a := 130) (by decide) (by omega)).mp h6t; omega
        rw [e6] at h
        refine lv_aload_n hx hb d_MD_measure_22 rfl (lv_at hl 0 rfl) ?_
        refine lv_iconst (v := 0) hx hb d_MD_measure_23 (by decide) ?_
        refine tm_put X h uw_MD t_MD t_MD_ok n_MD 0 rfl rfl 18 (by decide) kw_590 rfl rfl (rfl) (rfl) (Nat.le_of_ble_eq_true rfl) (ws' := tm_wM ad cI cZ (tm_sf (ms_clr u 130) 6 (0))) rfl d_MD_measure_24 (fun H locs h => ?_)
        refine lv_iconst (v := 0) hx hb d_MD_measure_27 (by decide) ?_
        refine lv_istore_n hx hb d_MD_measure_28 rfl hl (by decide) rfl (fun ls (hl : lv_has ls 4 [(1, .int (0)), (0, .ref (ad 0))]) => ?_)
        refine lv_aload_n hx hb d_MD_measure_29 rfl (lv_at hl 1 rfl) ?_
        refine lv_aload_n hx hb d_MD_measure_30 rfl (lv_at hl 1 rfl) ?_
        refine tm_get X h uw_MD 0 rfl rfl 19 (by decide) kw_591 rfl rfl d_MD_measure_31 ?_
        refine tm_top (y := u.1 7) (congrFun (ms_clr_f u 130) 7) ?_
        refine lv_if_eq hx hb d_MD_measure_34 (tgt := 41) rfl (fun h34t => ?_) (fun h34f => ?_)
        · refine lv_aload_n hx hb d_MD_measure_41 rfl (lv_at hl 1 rfl) ?_
          refine tm_get X h uw_MD 0 rfl rfl 7 (by decide) kw_579 rfl rfl d_MD_measure_42 ?_
          refine lv_iconst (v := 0) hx hb d_MD_measure_45 (by decide) ?_
          refine tm_iald X h 7 0 rfl rfl (0) (by decide) (rfl) (by decide) d_MD_measure_46 ?_
          refine tm_top (y := u.2.1 6 0) (congrFun (ms_clr_a u (by decide) 130) 0) ?_
          refine tm_cIf X h (tm_rS X h (c_MD_ones l D cI cZ ad (u.2.1 6 0) (tm_sf (ms_clr u 130) 6 (0))  _) ks_MD_ones kw_728 rfl rfl ⟨by decide, by decide⟩ rfl hl.1 rfl (Nat.le_of_ble_eq_true rfl) d_MD_measure_47 ⟨by decide, by decide⟩) (fun H locs h => ?_)
          refine tm_top (y := (if u.1 7 = 0 then ms_ones (u.2.1 6 0) 8 else 1)) ((if_pos h34t).symm) ?_
          refine tm_put X h uw_MD t_MD t_MD_ok n_MD 0 rfl rfl 17 (by decide) kw_589 rfl rfl (rfl) (rfl) (Nat.le_of_ble_eq_true rfl) (ws' := tm_wM ad cI cZ (tm_sf (tm_sf (ms_clr u 130) 6 (0)) 5 ((if u.1 7 = 0 then ms_ones (u.2.1 6 0) 8 else 1)))) rfl d_MD_measure_50 (fun H locs h => ?_)
          have h : tm_H D A sg (tm_wM ad cI cZ (ms_m0 u)) _ _ := h
          refine lv_aload_n hx hb d_MD_measure_53 rfl (lv_at hl 1 rfl) ?_
          refine tm_get X h uw_MD 0 rfl rfl 19 (by decide) kw_591 rfl rfl d_MD_measure_54 ?_
          refine tm_top (y := u.1 7) ((ms_eq.m0 u).2 7 (by decide) (by decide)) ?_
          refine lv_if_eq hx hb d_MD_measure_57 (tgt := 80) rfl (fun _ => ?_) (fun q => absurd (h34t) q)
          refine lv_aload_n hx hb d_MD_measure_80 rfl (lv_at hl 1 rfl) ?_
          refine tm_get X h uw_MD 0 rfl rfl 19 (by decide) kw_591 rfl rfl d_MD_measure_81 ?_
          refine tm_top (y := u.1 7) ((ms_eq.m0 u).2 7 (by decide) (by decide)) ?_
          refine lv_if_ne hx hb d_MD_measure_84 (tgt := 94) rfl (fun q => absurd (h34t) q) (fun _ => ?_)
          refine lv_aload_n hx hb d_MD_measure_87 rfl (lv_at hl 1 rfl) ?_
          refine lv_iconst (v := 0) hx hb d_MD_measure_88 (by decide) ?_
          refine lv_iload_n hx hb d_MD_measure_89 rfl (lv_at hl 0 rfl) ?_
          refine tm_cIf X h (tm_rV (q0 := 0) X h (c_MD_noteAll l D cI cZ ad (0) (0) (L) (ms_m0 u) (by decide) (ms_m0_OS u L) ((ms_eq.m0 u).row (hM.2.2.1 h34t)) _) ki_MD_noteAll kw_735 rfl rfl rfl rfl rfl ⟨by decide, by decide⟩ rfl hl.1 rfl (Nat.le_of_ble_eq_true rfl) d_MD_measure_90 ⟨by decide, by decide⟩) (fun H locs h => ?_)
          refine lv_istore_n hx hb d_MD_measure_93 rfl hl (by decide) rfl (fun ls (hl : lv_has ls 4 [(1, .int ((nI (ms_na (ms_m0 u) (0) (0) 8).2))), (0, .ref (ad 0))]) => ?_)
          refine lv_iconst (v := 0) hx hb d_MD_measure_94 (by decide) ?_
          refine lv_istore_n hx hb d_MD_measure_95 rfl hl (by decide) rfl (fun ls (hl : lv_has ls 4 [(2, .int (0)), (1, .int ((nI (ms_na (ms_m0 u) (0) (0) 8).2))), (0, .ref (ad 0))]) => ?_)
          exact lp96 _ (0) _ _ _ (Nat.lt_succ_self _) (Nat.zero_le _) (by rw [show ms_mf u 0 = _ from ms_m1_a h34t]; exact h) (by rw [show ms_mf u 0 = _ from ms_m1_a h34t]; exact lv_sub hl [2, 1, 0] rfl)
        · refine lv_iconst (v := 1) hx hb d_MD_measure_37 (by decide) ?_
          refine lv_goto hx hb d_MD_measure_38 (tgt := 50) rfl ?_
          refine tm_top (y := (if u.1 7 = 0 then ms_ones (u.2.1 6 0) 8 else 1)) ((if_neg h34f).symm) ?_
          refine tm_put X h uw_MD t_MD t_MD_ok n_MD 0 rfl rfl 17 (by decide) kw_589 rfl rfl (rfl) (rfl) (Nat.le_of_ble_eq_true rfl) (ws' := tm_wM ad cI cZ (tm_sf (tm_sf (ms_clr u 130) 6 (0)) 5 ((if u.1 7 = 0 then ms_ones (u.2.1 6 0) 8 else 1)))) rfl d_MD_measure_50 (fun H locs h => ?_)
          have h : tm_H D A sg (tm_wM ad cI cZ (ms_m0 u)) _ _ := h
          refine lv_aload_n hx hb d_MD_measure_53 rfl (lv_at hl 1 rfl) ?_
          refine tm_get X h uw_MD 0 rfl rfl 19 (by decide) kw_591 rfl rfl d_MD_measure_54 ?_
          refine tm_top (y := u.1 7) ((ms_eq.m0 u).2 7 (by decide) (by decide)) ?_
          refine lv_if_eq hx hb d_MD_measure_57 (tgt := 80) rfl (fun q => absurd q (h34f)) (fun _ => ?_)
          refine lv_aload_n hx hb d_MD_measure_60 rfl (lv_at hl 1 rfl) ?_
          refine tm_get X h uw_MD 0 rfl rfl 22 (by decide) kw_594 rfl rfl d_MD_measure_61 ?_
          refine tm_top (y := u.1 10) ((ms_eq.m0 u).2 10 (by decide) (by decide)) ?_
          refine lv_if_eq hx hb d_MD_measure_64 (tgt := 80) rfl (fun h64t => ?_) (fun h64f => ?_)
          · refine lv_aload_n hx hb d_MD_measure_80 rfl (lv_at hl 1 rfl) ?_
            refine tm_get X h uw_MD 0 rfl rfl 19 (by decide) kw_591 rfl rfl d_MD_measure_81 ?_
            refine tm_top (y := u.1 7) ((ms_eq.m0 u).2 7 (by decide) (by decide)) ?_
            refine lv_if_ne hx hb d_MD_measure_84 (tgt := 94) rfl (fun _ => ?_) (fun q => absurd q (h34f))
            refine lv_iconst (v := 0) hx hb d_MD_measure_94 (by decide) ?_
            refine lv_istore_n hx hb d_MD_measure_95 rfl hl (by decide) rfl (fun ls (hl : lv_has ls 4 [(2, .int (0)), (1, .int (0)), (0, .ref (ad 0))]) => ?_)
            exact lp96 _ (0) _ _ _ (Nat.lt_succ_self _) (Nat.zero_le _) (by rw [show ms_mf u 0 = _ from ms_m1_b h34f h64t]; exact h) (by rw [show ms_mf u 0 = _ from ms_m1_b h34f h64t]; exact lv_sub hl [2, 1, 0] rfl)
          · refine lv_aload_n hx hb d_MD_measure_67 rfl (lv_at hl 1 rfl) ?_
            refine lv_aload_n hx hb d_MD_measure_68 rfl (lv_at hl 1 rfl) ?_
            refine tm_get X h uw_MD 0 rfl rfl 21 (by decide) kw_593 rfl rfl d_MD_measure_69 ?_
            refine tm_top (y := nI ((u.1 9).toNatClampNeg)) (((ms_eq.m0 u).2 9 (by decide) (by decide)).trans (by obtain ⟨c, hc, _, e⟩ := hM.2.2.2.1 h34f h64f; rw [e, nI_clamp (by omega)])) ?_
            refine lv_iload_n hx hb d_MD_measure_72 rfl (lv_at hl 0 rfl) ?_
            refine tm_cIf X h (tm_rV (q0 := 0) X h (c_MD_note l D cI cZ ad ((u.1 9).toNatClampNeg) (0) (ms_m0 u) (by obtain ⟨c, hc, _, e⟩ := hM.2.2.2.1 h34f h64f; rw [e, nI_clamp (by omega)]; omega) (fun _ => by decide) _) ki_MD_note kw_731 rfl rfl rfl rfl rfl ⟨by decide, by decide⟩ rfl hl.1 rfl (Nat.le_of_ble_eq_true rfl) d_MD_measure_73 ⟨by decide, by decide⟩) (fun H locs h => ?_)
            refine lv_istore_n hx hb d_MD_measure_76 rfl hl (by decide) rfl (fun ls (hl : lv_has ls 4 [(1, .int ((nI (ms_noteN (ms_m0 u) ((u.1 9).toNatClampNeg) (0))))), (0, .ref (ad 0))]) => ?_)
            refine lv_goto hx hb d_MD_measure_77 (tgt := 94) rfl ?_
            refine lv_iconst (v := 0) hx hb d_MD_measure_94 (by decide) ?_
            refine lv_istore_n hx hb d_MD_measure_95 rfl hl (by decide) rfl (fun ls (hl : lv_has ls 4 [(2, .int (0)), (1, .int ((nI (ms_noteN (ms_m0 u) ((u.1 9).toNatClampNeg) (0))))), (0, .ref (ad 0))]) => ?_)
            exact lp96 _ (0) _ _ _ (Nat.lt_succ_self _) (Nat.zero_le _) (by rw [show ms_mf u 0 = _ from ms_m1_c h34f h64f]; exact h) (by rw [show ms_mf u 0 = _ from ms_m1_c h34f h64f]; exact lv_sub hl [2, 1, 0] rfl)
      · have h6 : k < 130 := by have : ¬ 130 ≤ k := fun q => h6f ((nI_leI (a := 130) (by decide) (by omega)).mpr q); omega
        refine lv_aload_n hx hb d_MD_measure_9 rfl (lv_at hl 0 rfl) ?_
        refine tm_get X h uw_MD 0 rfl rfl 11 (by decide) kw_583 rfl rfl d_MD_measure_10 ?_
        refine lv_iload_n hx hb d_MD_measure_13 rfl (lv_at hl 1 rfl) ?_
        refine lv_iconst (v := 0) hx hb d_MD_measure_14 (by decide) ?_
        refine tm_zast X h 11 1 rfl rfl (k) (by omega) (rfl) (by decide) (rfl) (ws' := tm_wM ad cI cZ (tm_sa (ms_clr u k) 10 (k) (0))) rfl d_MD_measure_15 (fun H locs h => ?_)
        refine lv_iinc (v := nI (k + 1)) hx hb d_MD_measure_16 hl (k := 1) rfl (tm_inc k) (by decide) rfl (fun ls (hl : lv_has ls 4 [(1, .int (nI (k + 1))), (0, .ref (ad 0))]) => ?_)
        refine lv_goto hx hb d_MD_measure_19 (tgt := 2) rfl ?_
        exact ih (k + 1) _ _ _ (by omega) (by omega) h (lv_sub hl [1, 0] rfl)
  exact lp2 _ (0) _ _ _ (Nat.lt_succ_self _) (Nat.zero_le _) h (lv_sub hl [1, 0] rfl)
