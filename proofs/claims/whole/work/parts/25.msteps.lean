theorem kw_743 : (Jvm.Cond.instanceMethod ({ cls := "TrimmedMachineModel", name := "steps", desc := "(I)I" } : Jvm.MethodName)) ∈ tm_wa := tm_tb (List.mem_append_right _ (List.mem_append_right _ (List.mem_append_right _ (List.mem_of_getElem? (i := 23) (by decide +kernel))))) rfl
theorem kw_744 : (Jvm.Cond.selects "TrimmedMachineModel" ({ cls := "TrimmedMachineModel", name := "steps", desc := "(I)I" } : Jvm.MethodName) ({ cls := "TrimmedMachineModel", name := "steps", desc := "(I)I" } : Jvm.MethodName)) ∈ tm_wa := tm_tb (List.mem_append_right _ (List.mem_append_right _ (List.mem_append_right _ (List.mem_of_getElem? (i := 24) (by decide +kernel))))) rfl
theorem kw_745 : (Jvm.Cond.code ({ cls := "TrimmedMachineModel", name := "steps", desc := "(I)I" } : Jvm.MethodName) prog_8_method_33_code (4 : Nat) (Option.some Jvm.ClassFile.FieldType.int)) ∈ tm_wa := tm_tb (List.mem_append_right _ (List.mem_append_right _ (List.mem_append_right _ (List.mem_of_getElem? (i := 25) (rfl))))) rfl
theorem kw_746 : (Jvm.Cond.methodLink "TrimmedMachineModel" (181 : Nat) ({ cls := "TrimmedMachineModel", name := "step", desc := "()Z" } : Jvm.MethodName)) ∈ tm_wa := tm_tb (List.mem_append_right _ (List.mem_append_right _ (List.mem_append_right _ (List.mem_of_getElem? (i := 26) (by decide +kernel))))) rfl
abbrev y_MD_steps : MethodName := { cls := "TrimmedMachineModel", name := "steps", desc := "(I)I" }
abbrev b_MD_steps : ByteArray := prog_8_method_33_code
theorem ki_MD_steps : tm_ki y_MD_steps b_MD_steps 4 (some .int) 1 := ⟨⟨kw_6, kw_745, by decide, by decide, by decide +kernel⟩, kw_743, kw_744⟩
theorem d_MD_steps_0 : decode b_MD_steps 0 = .ok (.aload_n 0, 1) := by decide +kernel
theorem d_MD_steps_1 : decode b_MD_steps 1 = .ok (.iload_n 1, 1) := by decide +kernel
theorem d_MD_steps_2 : decode b_MD_steps 2 = .ok (.iconst 1, 1) := by decide +kernel
theorem d_MD_steps_3 : decode b_MD_steps 3 = .ok (.if_icmp .lt 10, 3) := by decide +kernel
theorem d_MD_steps_6 : decode b_MD_steps 6 = .ok (.iload_n 1, 1) := by decide +kernel
theorem d_MD_steps_7 : decode b_MD_steps 7 = .ok (.sipush 500, 3) := by decide +kernel
theorem d_MD_steps_10 : decode b_MD_steps 10 = .ok (.if_icmp .le 7, 3) := by decide +kernel
theorem d_MD_steps_13 : decode b_MD_steps 13 = .ok (.iconst 1, 1) := by decide +kernel
theorem d_MD_steps_14 : decode b_MD_steps 14 = .ok (.goto 4, 3) := by decide +kernel
theorem d_MD_steps_17 : decode b_MD_steps 17 = .ok (.iconst 0, 1) := by decide +kernel
theorem d_MD_steps_18 : decode b_MD_steps 18 = .ok (.putfield 62, 3) := by decide +kernel
theorem d_MD_steps_21 : decode b_MD_steps 21 = .ok (.iconst 0, 1) := by decide +kernel
theorem d_MD_steps_22 : decode b_MD_steps 22 = .ok (.istore_n 2, 1) := by decide +kernel
theorem d_MD_steps_23 : decode b_MD_steps 23 = .ok (.aload_n 0, 1) := by decide +kernel
theorem d_MD_steps_24 : decode b_MD_steps 24 = .ok (.getfield 62, 3) := by decide +kernel
theorem d_MD_steps_27 : decode b_MD_steps 27 = .ok (.ifCond .ne 52, 3) := by decide +kernel
theorem d_MD_steps_30 : decode b_MD_steps 30 = .ok (.aload_n 0, 1) := by decide +kernel
theorem d_MD_steps_31 : decode b_MD_steps 31 = .ok (.getfield 122, 3) := by decide +kernel
theorem d_MD_steps_34 : decode b_MD_steps 34 = .ok (.iconst 1, 1) := by decide +kernel
theorem d_MD_steps_35 : decode b_MD_steps 35 = .ok (.if_icmp .ne 44, 3) := by decide +kernel
theorem d_MD_steps_38 : decode b_MD_steps 38 = .ok (.iload_n 2, 1) := by decide +kernel
theorem d_MD_steps_39 : decode b_MD_steps 39 = .ok (.iload_n 1, 1) := by decide +kernel
theorem d_MD_steps_40 : decode b_MD_steps 40 = .ok (.if_icmp .ge 39, 3) := by decide +kernel
theorem d_MD_steps_43 : decode b_MD_steps 43 = .ok (.aload_n 0, 1) := by decide +kernel
theorem d_MD_steps_44 : decode b_MD_steps 44 = .ok (.invokevirtual 181, 3) := by decide +kernel
theorem d_MD_steps_47 : decode b_MD_steps 47 = .ok (.istore_n 3, 1) := by decide +kernel
theorem d_MD_steps_48 : decode b_MD_steps 48 = .ok (.iload_n 3, 1) := by decide +kernel
theorem d_MD_steps_49 : decode b_MD_steps 49 = .ok (.ifCond .eq 9, 3) := by decide +kernel
theorem d_MD_steps_52 : decode b_MD_steps 52 = .ok (.iload_n 2, 1) := by decide +kernel
theorem d_MD_steps_53 : decode b_MD_steps 53 = .ok (.iconst 1, 1) := by decide +kernel
theorem d_MD_steps_54 : decode b_MD_steps 54 = .ok (.iadd, 1) := by decide +kernel
theorem d_MD_steps_55 : decode b_MD_steps 55 = .ok (.goto 4, 3) := by decide +kernel
theorem d_MD_steps_58 : decode b_MD_steps 58 = .ok (.iload_n 2, 1) := by decide +kernel
theorem d_MD_steps_59 : decode b_MD_steps 59 = .ok (.istore_n 2, 1) := by decide +kernel
theorem d_MD_steps_60 : decode b_MD_steps 60 = .ok (.aload_n 0, 1) := by decide +kernel
theorem d_MD_steps_61 : decode b_MD_steps 61 = .ok (.iload_n 3, 1) := by decide +kernel
theorem d_MD_steps_62 : decode b_MD_steps 62 = .ok (.ifCond .eq 7, 3) := by decide +kernel
theorem d_MD_steps_65 : decode b_MD_steps 65 = .ok (.iconst 0, 1) := by decide +kernel
theorem d_MD_steps_66 : decode b_MD_steps 66 = .ok (.goto 7, 3) := by decide +kernel
theorem d_MD_steps_69 : decode b_MD_steps 69 = .ok (.aload_n 0, 1) := by decide +kernel
theorem d_MD_steps_70 : decode b_MD_steps 70 = .ok (.getfield 148, 3) := by decide +kernel
theorem d_MD_steps_73 : decode b_MD_steps 73 = .ok (.putfield 62, 3) := by decide +kernel
theorem d_MD_steps_76 : decode b_MD_steps 76 = .ok (.goto (-53), 3) := by decide +kernel
theorem d_MD_steps_79 : decode b_MD_steps 79 = .ok (.aload_n 0, 1) := by decide +kernel
theorem d_MD_steps_80 : decode b_MD_steps 80 = .ok (.getfield 62, 3) := by decide +kernel
theorem d_MD_steps_83 : decode b_MD_steps 83 = .ok (.ifCond .ne 7, 3) := by decide +kernel
theorem d_MD_steps_86 : decode b_MD_steps 86 = .ok (.iload_n 2, 1) := by decide +kernel
theorem d_MD_steps_87 : decode b_MD_steps 87 = .ok (.goto 4, 3) := by decide +kernel
theorem d_MD_steps_90 : decode b_MD_steps 90 = .ok (.iconst 0, 1) := by decide +kernel
theorem d_MD_steps_91 : decode b_MD_steps 91 = .ok (.ireturn, 1) := by decide +kernel
set_option maxHeartbeats 4000000 in
set_option maxRecDepth 100000 in
theorem c_MD_steps (l : Launch) (D : va_G) (cI cZ : ClassId) (ad : Nat → Nat) (J : tm_SC → Prop) (T : tm_SC → Int32 → tm_SC → Prop) (x : Int32) (u : tm_SC) (hS : ∀ w, J w → w.1 1 = 1 → tm_I l y_MD_step b_MD_step 1 .boolean ({ frames := 5, cells := 0, slots := 0, locals := 170 } : Room) D (tm_yM cI cZ) (tm_wM ad cI cZ) [.ref (ad 0)] w (T w)) (hT : ∀ w r v, J w → w.1 1 = 1 → T w r v → (r = 0 → ¬ v.1 12 = 0) ∧ (¬ r = 0 → J (tm_sf v 13 0))) (hJ : J (tm_sf u 13 0)) : tm_I l y_MD_steps b_MD_steps 4 .int ({ frames := 6, cells := 0, slots := 0, locals := 190 } : Room) D (tm_yM cI cZ) (tm_wM ad cI cZ) [.ref (ad 0), .int (x)] u (fun r u' => ((x < 1 ∨ 500 < x) ∧ r = 0 ∧ u' = tm_sf u 13 1) ∨ (¬ (x < 1 ∨ 500 < x) ∧ ∃ d, ms_rn T x.toNatClampNeg 0 (tm_sf u 13 0) d u' ∧ r = if u'.1 13 = 0 then nI d else 0)) := by
  intro sz
  refine tm_of (Qc := fun A => va_Qi (fun r u' => ((x < 1 ∨ 500 < x) ∧ r = 0 ∧ u' = tm_sf u 13 1) ∨ (¬ (x < 1 ∨ 500 < x) ∧ ∃ d, ms_rn T x.toNatClampNeg 0 (tm_sf u 13 0) d u' ∧ r = if u'.1 13 = 0 then nI d else 0)) (fun u' t => tm_B D (tm_yM cI cZ) A (tm_wM ad cI cZ u') t) A) (by decide) (Nat.le_of_ble_eq_true rfl) ?_ sz
  intro pg eg sg mg bel met cg A ls X h hl hnm
  have hx := X.1.1
  have hb := X.1.2.1
  have hl : lv_has ls 4 [(0, .ref (ad 0)), (1, .int (x))] := hl
  have lp23 : ∀ (nf : Nat) (w : tm_SC) (d : Nat) (H : Heap) (locs : List Loc) (ls : Array Slot), 2 * (x.toNatClampNeg - d) + (if w.1 13 = 0 then 1 else 0) < nf → (¬ (x < 1 ∨ 500 < x)) → (x = nI x.toNatClampNeg) → (x.toNatClampNeg ≤ 500) → (d ≤ x.toNatClampNeg) → ((w.1 13 = 0 ∧ J w ∧ ∀ d' v, ms_rn T (x.toNatClampNeg - d) d w d' v → ms_rn T x.toNatClampNeg 0 (tm_sf u 13 0) d' v) ∨ (¬ w.1 13 = 0 ∧ ms_rn T x.toNatClampNeg 0 (tm_sf u 13 0) d w)) → tm_H D A sg (tm_wM ad cI cZ (w)) H locs → lv_has ls 4 [(0, .ref (ad 0)), (1, .int (x)), (2, .int (nI d))] → W pg l eg ({ frames := 6, cells := 0, slots := 0, locals := 190 } : Room) sg mg ([.ref (ad 0), .int (x)] : List Value).toArray bel met cg H locs 0 0 (MQ bel (va_Qi (fun r u' => ((x < 1 ∨ 500 < x) ∧ r = 0 ∧ u' = tm_sf u 13 1) ∨ (¬ (x < 1 ∨ 500 < x) ∧ ∃ d, ms_rn T x.toNatClampNeg 0 (tm_sf u 13 0) d u' ∧ r = if u'.1 13 = 0 then nI d else 0)) (fun u' t => tm_B D (tm_yM cI cZ) A (tm_wM ad cI cZ u') t) A) ([.ref (ad 0), .int (x)] : List Value).toArray sg 0 0 A) (F0 mg 23 ls []) := by
    intro nf
    induction nf with
    | zero => intro w d H locs ls hm; exact absurd hm (Nat.not_lt_zero _)
    | succ nf ih =>
      intro w d H locs ls hm hNB en hn5 hd hR h hl
      refine lv_aload_n hx hb d_MD_steps_23 rfl (lv_at hl 0 rfl) ?_
      refine tm_get X h uw_MD 0 rfl rfl 30 (by decide) kw_602 rfl rfl d_MD_steps_24 ?_
      refine lv_if_ne hx hb d_MD_steps_27 (tgt := 79) rfl (fun h27t => ?_) (fun h27f => ?_)
      · refine lv_aload_n hx hb d_MD_steps_79 rfl (lv_at hl 0 rfl) ?_
        refine tm_get X h uw_MD 0 rfl rfl 30 (by decide) kw_602 rfl rfl d_MD_steps_80 ?_
        refine lv_if_ne hx hb d_MD_steps_83 (tgt := 90) rfl (fun _ => ?_) (fun q => absurd q (h27t))
        refine lv_iconst (v := 0) hx hb d_MD_steps_90 (by decide) ?_
        exact tm_iret (w := tm_wM ad cI cZ) (u := (w)) X h (Or.inr ⟨hNB, d, (hR.resolve_left (fun q => h27t q.1)).2, (if_neg h27t).symm⟩) d_MD_steps_91
      · obtain ⟨hz9, hJ9, hR9⟩ := hR.resolve_right (fun q => q.1 h27f)
        refine lv_aload_n hx hb d_MD_steps_30 rfl (lv_at hl 0 rfl) ?_
        refine tm_get X h uw_MD 0 rfl rfl 13 (by decide) kw_585 rfl rfl d_MD_steps_31 ?_
        refine lv_iconst (v := 1) hx hb d_MD_steps_34 (by decide) ?_
        refine lv_icmp_ne hx hb d_MD_steps_35 (tgt := 79) rfl (fun h35t => ?_) (fun h35f => ?_)
        · refine lv_aload_n hx hb d_MD_steps_79 rfl (lv_at hl 0 rfl) ?_
          refine tm_get X h uw_MD 0 rfl rfl 30 (by decide) kw_602 rfl rfl d_MD_steps_80 ?_
          refine lv_if_ne hx hb d_MD_steps_83 (tgt := 90) rfl (fun q => absurd (h27f) q) (fun _ => ?_)
          refine lv_iload_n hx hb d_MD_steps_86 rfl (lv_at hl 2 rfl) ?_
          refine lv_goto hx hb d_MD_steps_87 (tgt := 91) rfl ?_
          exact tm_iret (w := tm_wM ad cI cZ) (u := (w)) X h (Or.inr ⟨hNB, d, hR9 _ _ (ms_rn_stop h35t d _), (if_pos h27f).symm⟩) d_MD_steps_91
        · refine lv_iload_n hx hb d_MD_steps_38 rfl (lv_at hl 2 rfl) ?_
          refine lv_iload_n hx hb d_MD_steps_39 rfl (lv_at hl 1 rfl) ?_
          refine lv_icmp_ge hx hb d_MD_steps_40 (tgt := 79) rfl (fun h40t => ?_) (fun h40f => ?_)
          · refine lv_aload_n hx hb d_MD_steps_79 rfl (lv_at hl 0 rfl) ?_
            refine tm_get X h uw_MD 0 rfl rfl 30 (by decide) kw_602 rfl rfl d_MD_steps_80 ?_
            refine lv_if_ne hx hb d_MD_steps_83 (tgt := 90) rfl (fun q => absurd (h27f) q) (fun _ => ?_)
            refine lv_iload_n hx hb d_MD_steps_86 rfl (lv_at hl 2 rfl) ?_
            refine lv_goto hx hb d_MD_steps_87 (tgt := 91) rfl ?_
            exact tm_iret (w := tm_wM ad cI cZ) (u := (w)) X h (Or.inr ⟨hNB, d, hR9 _ _ (by rw [show x.toNatClampNeg - d = 0 by have := (nI_leI (by omega) (by omega)).mp (show nI x.toNatClampNeg ≤ nI d by rw [← en]; exact h40t); omega]; exact ⟨rfl, rfl⟩), (if_pos h27f).symm⟩) d_MD_steps_91
          · have h40 : d < x.toNatClampNeg := by have : ¬ x.toNatClampNeg ≤ d := fun q => h40f (by rw [en]; exact (nI_leI (by omega) (by omega)).mpr q); omega
            refine lv_aload_n hx hb d_MD_steps_43 rfl (lv_at hl 0 rfl) ?_
            refine tm_cI X h (tm_rV (q0 := 0) X h (hS w hJ9 h35f _) ki_MD_step kw_746 rfl rfl rfl rfl rfl ⟨by decide, by decide⟩ rfl hl.1 rfl (Nat.le_of_ble_eq_true rfl) d_MD_steps_44 ⟨by decide, by decide⟩) (fun r44 u44 H locs hp44 h => ?_)
            refine lv_istore_n hx hb d_MD_steps_47 rfl hl (by decide) rfl (fun ls (hl : lv_has ls 4 [(3, .int (r44)), (0, .ref (ad 0)), (1, .int (x)), (2, .int (nI d))]) => ?_)
            refine lv_iload_n hx hb d_MD_steps_48 rfl (lv_at hl 0 rfl) ?_
            refine lv_if_eq hx hb d_MD_steps_49 (tgt := 58) rfl (fun h49t => ?_) (fun h49f => ?_)
            · refine lv_iload_n hx hb d_MD_steps_58 rfl (lv_at hl 3 rfl) ?_
              refine lv_istore_n hx hb d_MD_steps_59 rfl hl (by decide) rfl (fun ls (hl : lv_has ls 4 [(2, .int (nI d)), (3, .int (r44)), (0, .ref (ad 0)), (1, .int (x))]) => ?_)
              refine lv_aload_n hx hb d_MD_steps_60 rfl (lv_at hl 2 rfl) ?_
              refine lv_iload_n hx hb d_MD_steps_61 rfl (lv_at hl 1 rfl) ?_
              refine lv_if_eq hx hb d_MD_steps_62 (tgt := 69) rfl (fun _ => ?_) (fun q => absurd (h49t) q)
              refine lv_aload_n hx hb d_MD_steps_69 rfl (lv_at hl 2 rfl) ?_
              refine tm_get X h uw_MD 0 rfl rfl 29 (by decide) kw_601 rfl rfl d_MD_steps_70 ?_
              refine tm_put X h uw_MD t_MD t_MD_ok n_MD 0 rfl rfl 30 (by decide) kw_602 rfl rfl (rfl) (rfl) (Nat.le_of_ble_eq_true rfl) (ws' := tm_wM ad cI cZ (tm_sf u44 13 (((u44).1 12)))) rfl d_MD_steps_73 (fun H locs h => ?_)
              refine lv_goto hx hb d_MD_steps_76 (tgt := 23) rfl ?_
              exact ih (tm_sf u44 13 (u44.1 12)) (d) _ _ _ (by rw [if_neg (show ¬ (tm_sf u44 13 (u44.1 12)).1 13 = 0 from (hT w r44 u44 hJ9 h35f hp44).1 h49t)]; rw [if_pos h27f] at hm; omega) (hNB) (en) (hn5) (hd) (Or.inr ⟨(hT w r44 u44 hJ9 h35f hp44).1 h49t, hR9 _ _ (ms_rn_bad h35f (by omega) hp44 h49t)⟩) h (lv_sub hl [2, 3, 0] rfl)
            · refine lv_iload_n hx hb d_MD_steps_52 rfl (lv_at hl 3 rfl) ?_
              refine lv_iconst (v := 1) hx hb d_MD_steps_53 (by decide) ?_
              refine lv_iadd hx hb d_MD_steps_54 ?_
              refine lv_goto hx hb d_MD_steps_55 (tgt := 59) rfl ?_
              refine tm_top (y := nI (d + 1)) (nI_1 d) ?_
              refine lv_istore_n hx hb d_MD_steps_59 rfl hl (by decide) rfl (fun ls (hl : lv_has ls 4 [(2, .int (nI (d + 1))), (3, .int (r44)), (0, .ref (ad 0)), (1, .int (x))]) => ?_)
              refine lv_aload_n hx hb d_MD_steps_60 rfl (lv_at hl 2 rfl) ?_
              refine lv_iload_n hx hb d_MD_steps_61 rfl (lv_at hl 1 rfl) ?_
              refine lv_if_eq hx hb d_MD_steps_62 (tgt := 69) rfl (fun q => absurd q (h49f)) (fun _ => ?_)
              refine lv_iconst (v := 0) hx hb d_MD_steps_65 (by decide) ?_
              refine lv_goto hx hb d_MD_steps_66 (tgt := 73) rfl ?_
              refine tm_put X h uw_MD t_MD t_MD_ok n_MD 0 rfl rfl 30 (by decide) kw_602 rfl rfl (rfl) (rfl) (Nat.le_of_ble_eq_true rfl) (ws' := tm_wM ad cI cZ (tm_sf u44 13 (0))) rfl d_MD_steps_73 (fun H locs h => ?_)
              refine lv_goto hx hb d_MD_steps_76 (tgt := 23) rfl ?_
              exact ih (tm_sf u44 13 0) (d + 1) _ _ _ (by rw [if_pos (show (tm_sf u44 13 0).1 13 = 0 from rfl)]; rw [if_pos h27f] at hm; omega) (hNB) (en) (hn5) (by omega) (Or.inl ⟨rfl, (hT w r44 u44 hJ9 h35f hp44).2 h49f, fun d9 v9 q9 => hR9 d9 v9 (ms_rn_good h35f h40 hp44 h49f q9)⟩) h (lv_sub hl [2, 3, 0] rfl)
  refine lv_aload_n hx hb d_MD_steps_0 rfl (lv_at hl 0 rfl) ?_
  refine lv_iload_n hx hb d_MD_steps_1 rfl (lv_at hl 1 rfl) ?_
  refine lv_iconst (v := 1) hx hb d_MD_steps_2 (by decide) ?_
  refine lv_icmp_lt hx hb d_MD_steps_3 (tgt := 13) rfl (fun h3t => ?_) (fun h3f => ?_)
  · refine lv_iconst (v := 1) hx hb d_MD_steps_13 (by decide) ?_
    refine lv_goto hx hb d_MD_steps_14 (tgt := 18) rfl ?_
    refine tm_put X h uw_MD t_MD t_MD_ok n_MD 0 rfl rfl 30 (by decide) kw_602 rfl rfl (rfl) (rfl) (Nat.le_of_ble_eq_true rfl) (ws' := tm_wM ad cI cZ (tm_sf u 13 (1))) rfl d_MD_steps_18 (fun H locs h => ?_)
    refine lv_iconst (v := 0) hx hb d_MD_steps_21 (by decide) ?_
    refine lv_istore_n hx hb d_MD_steps_22 rfl hl (by decide) rfl (fun ls (hl : lv_has ls 4 [(2, .int (0)), (0, .ref (ad 0)), (1, .int (x))]) => ?_)
    refine lv_aload_n hx hb d_MD_steps_23 rfl (lv_at hl 1 rfl) ?_
    refine tm_get X h uw_MD 0 rfl rfl 30 (by decide) kw_602 rfl rfl d_MD_steps_24 ?_
    refine lv_if_ne hx hb d_MD_steps_27 (tgt := 79) rfl (fun _ => ?_) (fun q => absurd q ((fun z => absurd (show (1 : Int32) = 0 from z) (by decide))))
    refine lv_aload_n hx hb d_MD_steps_79 rfl (lv_at hl 1 rfl) ?_
    refine tm_get X h uw_MD 0 rfl rfl 30 (by decide) kw_602 rfl rfl d_MD_steps_80 ?_
    refine lv_if_ne hx hb d_MD_steps_83 (tgt := 90) rfl (fun _ => ?_) (fun q => absurd q ((fun z => absurd (show (1 : Int32) = 0 from z) (by decide))))
    refine lv_iconst (v := 0) hx hb d_MD_steps_90 (by decide) ?_
    exact tm_iret (w := tm_wM ad cI cZ) (u := (tm_sf u 13 (1))) X h (Or.inl ⟨Or.inl h3t, rfl, rfl⟩) d_MD_steps_91
  · refine lv_iload_n hx hb d_MD_steps_6 rfl (lv_at hl 1 rfl) ?_
    refine lv_sipush (v := 500) hx hb d_MD_steps_7 (by decide) ?_
    refine lv_icmp_le hx hb d_MD_steps_10 (tgt := 17) rfl (fun h10t => ?_) (fun h10f => ?_)
    · refine lv_iconst (v := 0) hx hb d_MD_steps_17 (by decide) ?_
      refine tm_put X h uw_MD t_MD t_MD_ok n_MD 0 rfl rfl 30 (by decide) kw_602 rfl rfl (rfl) (rfl) (Nat.le_of_ble_eq_true rfl) (ws' := tm_wM ad cI cZ (tm_sf u 13 (0))) rfl d_MD_steps_18 (fun H locs h => ?_)
      refine lv_iconst (v := 0) hx hb d_MD_steps_21 (by decide) ?_
      refine lv_istore_n hx hb d_MD_steps_22 rfl hl (by decide) rfl (fun ls (hl : lv_has ls 4 [(2, .int (0)), (0, .ref (ad 0)), (1, .int (x))]) => ?_)
      exact lp23 _ (tm_sf u 13 0) (0) _ _ _ (Nat.lt_succ_self _) (fun q => q.elim h3f (Int32.not_lt.mpr h10t)) ((tm_rng h3f h10t).1) ((tm_rng h3f h10t).2) (Nat.zero_le _) (Or.inl ⟨rfl, hJ, fun _ _ q => q⟩) h (lv_sub hl [1, 2, 0] rfl)
    · refine lv_iconst (v := 1) hx hb d_MD_steps_13 (by decide) ?_
      refine lv_goto hx hb d_MD_steps_14 (tgt := 18) rfl ?_
      refine tm_put X h uw_MD t_MD t_MD_ok n_MD 0 rfl rfl 30 (by decide) kw_602 rfl rfl (rfl) (rfl) (Nat.le_of_ble_eq_true rfl) (ws' := tm_wM ad cI cZ (tm_sf u 13 (1))) rfl d_MD_steps_18 (fun H locs h => ?_)
      refine lv_iconst (v := 0) hx hb d_MD_steps_21 (by decide) ?_
      refine lv_istore_n hx hb d_MD_steps_22 rfl hl (by decide) rfl (fun ls (hl : lv_has ls 4 [(2, .int (0)), (0, .ref (ad 0)), (1, .int (x))]) => ?_)
      refine lv_aload_n hx hb d_MD_steps_23 rfl (lv_at hl 1 rfl) ?_
      refine tm_get X h uw_MD 0 rfl rfl 30 (by decide) kw_602 rfl rfl d_MD_steps_24 ?_
      refine lv_if_ne hx hb d_MD_steps_27 (tgt := 79) rfl (fun _ => ?_) (fun q => absurd q ((fun z => absurd (show (1 : Int32) = 0 from z) (by decide))))
      refine lv_aload_n hx hb d_MD_steps_79 rfl (lv_at hl 1 rfl) ?_
      refine tm_get X h uw_MD 0 rfl rfl 30 (by decide) kw_602 rfl rfl d_MD_steps_80 ?_
      refine lv_if_ne hx hb d_MD_steps_83 (tgt := 90) rfl (fun _ => ?_) (fun q => absurd q ((fun z => absurd (show (1 : Int32) = 0 from z) (by decide))))
      refine lv_iconst (v := 0) hx hb d_MD_steps_90 (by decide) ?_
      exact tm_iret (w := tm_wM ad cI cZ) (u := (tm_sf u 13 (1))) X h (Or.inl ⟨Or.inr (Int32.not_le.mp h10f), rfl, rfl⟩) d_MD_steps_91
