theorem kw_407 : (Jvm.Cond.instanceMethod ({ cls := "TrimmedMachine", name := "steps", desc := "(I)I" } : Jvm.MethodName)) ∈ tm_wa := tm_tb (List.mem_append_right _ (List.mem_append_left _ (List.mem_of_getElem? (i := 167) (by decide +kernel)))) rfl
theorem kw_408 : (Jvm.Cond.selects "TrimmedMachine" ({ cls := "TrimmedMachine", name := "steps", desc := "(I)I" } : Jvm.MethodName) ({ cls := "TrimmedMachine", name := "steps", desc := "(I)I" } : Jvm.MethodName)) ∈ tm_wa := tm_tb (List.mem_append_right _ (List.mem_append_left _ (List.mem_of_getElem? (i := 168) (by decide +kernel)))) rfl
theorem kw_409 : (Jvm.Cond.code ({ cls := "TrimmedMachine", name := "steps", desc := "(I)I" } : Jvm.MethodName) prog_1_method_10_code (3 : Nat) (Option.some Jvm.ClassFile.FieldType.int)) ∈ tm_wa := tm_tb (List.mem_append_right _ (List.mem_append_left _ (List.mem_of_getElem? (i := 169) (rfl)))) rfl
theorem kw_411 : (Jvm.Cond.methodLinkNest "TrimmedMachine" (69 : Nat) ({ cls := "TrimmedMachine$Run", name := "step", desc := "()V" } : Jvm.MethodName) "TrimmedMachine") ∈ tm_nw := tm_nin (List.mem_append_right _ (List.mem_append_left _ (List.mem_of_getElem? (i := 171) (by decide +kernel)))) rfl
abbrev y_TM_steps : MethodName := { cls := "TrimmedMachine", name := "steps", desc := "(I)I" }
abbrev b_TM_steps : ByteArray := prog_1_method_10_code
theorem ki_TM_steps : tm_ki y_TM_steps b_TM_steps 3 (some .int) 1 := ⟨⟨kw_1, kw_409, by decide, by decide, by decide +kernel⟩, kw_407, kw_408⟩
theorem d_TM_steps_0 : decode b_TM_steps 0 = .ok (.iload_n 1, 1) := by decide +kernel
theorem d_TM_steps_1 : decode b_TM_steps 1 = .ok (.iconst 1, 1) := by decide +kernel
theorem d_TM_steps_2 : decode b_TM_steps 2 = .ok (.if_icmp .lt 10, 3) := by decide +kernel
theorem d_TM_steps_5 : decode b_TM_steps 5 = .ok (.iload_n 1, 1) := by decide +kernel
theorem d_TM_steps_6 : decode b_TM_steps 6 = .ok (.sipush 500, 3) := by decide +kernel
theorem d_TM_steps_9 : decode b_TM_steps 9 = .ok (.if_icmp .le 13, 3) := by decide +kernel
theorem d_TM_steps_12 : decode b_TM_steps 12 = .ok (.new 47, 3) := by decide +kernel
theorem d_TM_steps_15 : decode b_TM_steps 15 = .ok (.dup, 1) := by decide +kernel
theorem d_TM_steps_16 : decode b_TM_steps 16 = .ok (.ldc 63, 2) := by decide +kernel
theorem d_TM_steps_18 : decode b_TM_steps 18 = .ok (.invokespecial 51, 3) := by decide +kernel
theorem d_TM_steps_21 : decode b_TM_steps 21 = .ok (.athrow, 1) := by decide +kernel
theorem d_TM_steps_22 : decode b_TM_steps 22 = .ok (.iconst 0, 1) := by decide +kernel
theorem d_TM_steps_23 : decode b_TM_steps 23 = .ok (.istore_n 2, 1) := by decide +kernel
theorem d_TM_steps_24 : decode b_TM_steps 24 = .ok (.iload_n 2, 1) := by decide +kernel
theorem d_TM_steps_25 : decode b_TM_steps 25 = .ok (.iload_n 1, 1) := by decide +kernel
theorem d_TM_steps_26 : decode b_TM_steps 26 = .ok (.if_icmp .ge 27, 3) := by decide +kernel
theorem d_TM_steps_29 : decode b_TM_steps 29 = .ok (.aload_n 0, 1) := by decide +kernel
theorem d_TM_steps_30 : decode b_TM_steps 30 = .ok (.getfield 21, 3) := by decide +kernel
theorem d_TM_steps_33 : decode b_TM_steps 33 = .ok (.getfield 65, 3) := by decide +kernel
theorem d_TM_steps_36 : decode b_TM_steps 36 = .ok (.iconst 1, 1) := by decide +kernel
theorem d_TM_steps_37 : decode b_TM_steps 37 = .ok (.if_icmp .ne 16, 3) := by decide +kernel
theorem d_TM_steps_40 : decode b_TM_steps 40 = .ok (.aload_n 0, 1) := by decide +kernel
theorem d_TM_steps_41 : decode b_TM_steps 41 = .ok (.getfield 21, 3) := by decide +kernel
theorem d_TM_steps_44 : decode b_TM_steps 44 = .ok (.invokevirtual 69, 3) := by decide +kernel
theorem d_TM_steps_47 : decode b_TM_steps 47 = .ok (.iinc 2 1, 3) := by decide +kernel
theorem d_TM_steps_50 : decode b_TM_steps 50 = .ok (.goto (-26), 3) := by decide +kernel
theorem d_TM_steps_53 : decode b_TM_steps 53 = .ok (.iload_n 2, 1) := by decide +kernel
theorem d_TM_steps_54 : decode b_TM_steps 54 = .ok (.ireturn, 1) := by decide +kernel
set_option maxHeartbeats 4000000 in
set_option maxRecDepth 100000 in
theorem c_TM_steps (l : Launch) (D : va_G) (cI cL cZ : ClassId) (ad : Nat → Nat) (hst : l.stackTraces = false) (J : tm_SC → Prop) (T : tm_SC → tm_SC → Prop) (TX : tm_SC → String → tm_SC → Prop) (x : Int32) (u : tm_SC) (hS : ∀ w, J w → w.1 1 = 1 → tx_V l y_RN_step b_RN_step 1 ({ frames := 11, cells := 1, slots := 6, locals := 260 } : Room) D (tm_yC cI cL cZ) (tm_wC ad cI cL cZ) [.ref (ad 8)] w (T w) (TX w)) (hT : ∀ w v, J w → w.1 1 = 1 → T w v → J v) (hJ : J u) : tx_I l y_TM_steps b_TM_steps 3 .int ({ frames := 12, cells := 1, slots := 6, locals := 280 } : Room) D (tm_yC cI cL cZ) (tm_wC ad cI cL cZ) [.ref (ad 0), .int (x)] u (fun r u' => ¬ (x < 1 ∨ 500 < x) ∧ ∃ d, cs_rn T x.toNatClampNeg 0 u d u' ∧ r = nI d) (fun E u' => (E = "java/lang/IllegalArgumentException" ∧ u' = u ∧ (x < 1 ∨ 500 < x)) ∨ (¬ (x < 1 ∨ 500 < x) ∧ cs_rx T TX x.toNatClampNeg u E u')) := by
  intro sz
  refine tx_of (Qc := fun A => va_Qi (fun r u' => ¬ (x < 1 ∨ 500 < x) ∧ ∃ d, cs_rn T x.toNatClampNeg 0 u d u' ∧ r = nI d) (fun u' t => tm_B D (tm_yC cI cL cZ) A (tm_wC ad cI cL cZ u') t) A) (XC := fun A => tx_X D (tm_yC cI cL cZ) (tm_wC ad cI cL cZ) A (fun E u' => (E = "java/lang/IllegalArgumentException" ∧ u' = u ∧ (x < 1 ∨ 500 < x)) ∨ (¬ (x < 1 ∨ 500 < x) ∧ cs_rx T TX x.toNatClampNeg u E u'))) (by decide) (Nat.le_of_ble_eq_true rfl) ?_ sz
  intro pg eg sg mg bel met cg A ls X h hl hE htab
  have hx := X.1.1
  have hb := X.1.2.1
  have hl : lv_has ls 3 [(0, .ref (ad 0)), (1, .int (x))] := hl
  have lp24 : ∀ (nf : Nat) (w : tm_SC) (d : Nat) (H : Heap) (locs : List Loc) (ls : Array Slot), x.toNatClampNeg - d < nf → (¬ (x < 1 ∨ 500 < x)) → (x = nI x.toNatClampNeg) → (x.toNatClampNeg ≤ 500) → (d ≤ x.toNatClampNeg) → (J w) → (∀ d' v, cs_rn T (x.toNatClampNeg - d) d w d' v → cs_rn T x.toNatClampNeg 0 u d' v) → (∀ E v, cs_rx T TX (x.toNatClampNeg - d) w E v → cs_rx T TX x.toNatClampNeg u E v) → tm_H D A sg (tm_wC ad cI cL cZ (w)) H locs → lv_has ls 3 [(0, .ref (ad 0)), (1, .int (x)), (2, .int (nI d))] → W pg l eg ({ frames := 12, cells := 1, slots := 6, locals := 280 } : Room) sg mg ([.ref (ad 0), .int (x)] : List Value).toArray bel met cg H locs 0 0 (tx_MQ bel (va_Qi (fun r u' => ¬ (x < 1 ∨ 500 < x) ∧ ∃ d, cs_rn T x.toNatClampNeg 0 u d u' ∧ r = nI d) (fun u' t => tm_B D (tm_yC cI cL cZ) A (tm_wC ad cI cL cZ u') t) A) (tx_X D (tm_yC cI cL cZ) (tm_wC ad cI cL cZ) A (fun E u' => (E = "java/lang/IllegalArgumentException" ∧ u' = u ∧ (x < 1 ∨ 500 < x)) ∨ (¬ (x < 1 ∨ 500 < x) ∧ cs_rx T TX x.toNatClampNeg u E u'))) ([.ref (ad 0), .int (x)] : List Value).toArray sg A) (F0 mg 24 ls []) := by
    intro nf
    induction nf with
    | zero => intro w d H locs ls hm; exact absurd hm (Nat.not_lt_zero _)
    | succ nf ih =>
      intro w d H locs ls hm hNB en hn5 hd hJ9 hR hRX h hl
      refine lv_iload_n hx hb d_TM_steps_24 rfl (lv_at hl 2 rfl) ?_
      refine lv_iload_n hx hb d_TM_steps_25 rfl (lv_at hl 1 rfl) ?_
      refine lv_icmp_ge hx hb d_TM_steps_26 (tgt := 53) rfl (fun h26t => ?_) (fun h26f => ?_)
      · refine lv_iload_n hx hb d_TM_steps_53 rfl (lv_at hl 2 rfl) ?_
        exact tx_iret (w := tm_wC ad cI cL cZ) (u := (w)) X h (⟨hNB, d, hR _ _ (by rw [show x.toNatClampNeg - d = 0 by have := (nI_leI (by omega) (by omega)).mp (show nI x.toNatClampNeg ≤ nI d by rw [← en]; exact h26t); omega]; exact ⟨rfl, rfl⟩), rfl⟩) d_TM_steps_54
      · have h26 : d < x.toNatClampNeg := by have : ¬ x.toNatClampNeg ≤ d := fun q => h26f (by rw [en]; exact (nI_leI (by omega) (by omega)).mpr q); omega
        refine lv_aload_n hx hb d_TM_steps_29 rfl (lv_at hl 0 rfl) ?_
        refine tm_get X h uw_TM 0 rfl rfl 1 (by decide) kw_166 rfl rfl d_TM_steps_30 ?_
        refine tm_getN X h uw_RN 8 rfl rfl 6 (by decide) kw_120 rfl rfl d_TM_steps_33 ?_
        refine lv_iconst (v := 1) hx hb d_TM_steps_36 (by decide) ?_
        refine lv_icmp_ne hx hb d_TM_steps_37 (tgt := 53) rfl (fun h37t => ?_) (fun h37f => ?_)
        · refine lv_iload_n hx hb d_TM_steps_53 rfl (lv_at hl 2 rfl) ?_
          exact tx_iret (w := tm_wC ad cI cL cZ) (u := (w)) X h (⟨hNB, d, hR _ _ (cs_rn_stop h37t d _), rfl⟩) d_TM_steps_54
        · refine lv_aload_n hx hb d_TM_steps_40 rfl (lv_at hl 0 rfl) ?_
          refine tm_get X h uw_TM 0 rfl rfl 1 (by decide) kw_166 rfl rfl d_TM_steps_41 ?_
          refine tx_cV X h (tx_rVN (q0 := 8) X h hE (hS w hJ9 h37f _) ki_RN_step kw_411 rfl rfl rfl rfl rfl ⟨by decide, by decide⟩ rfl hl.1 rfl (Nat.le_of_ble_eq_true rfl) d_TM_steps_44 ⟨by decide, by decide⟩) (fun E9 u9 q9 ce9 H locs hx9 h e91 e92 e93 => tx_out (w := tm_wC ad cI cL cZ) (u := u9) X htab h e91 e92 e93 (Or.inr ⟨hNB, hRX _ _ (cs_rx_bad h37f h26 hx9)⟩)) (fun u44 H locs hp44 h => ?_)
          refine lv_iinc (v := nI (d + 1)) hx hb d_TM_steps_47 hl (k := 2) rfl (tm_inc d) (by decide) rfl (fun ls (hl : lv_has ls 3 [(2, .int (nI (d + 1))), (0, .ref (ad 0)), (1, .int (x))]) => ?_)
          refine lv_goto hx hb d_TM_steps_50 (tgt := 24) rfl ?_
          exact ih (u44) (d + 1) _ _ _ (by omega) (hNB) (en) (hn5) (by omega) (hT w u44 hJ9 h37f hp44) (fun d9 v9 q9 => hR d9 v9 (cs_rn_good h37f h26 hp44 q9)) (fun d9 v9 q9 => hRX d9 v9 (cs_rx_good h37f h26 hp44 q9)) h (lv_sub hl [1, 2, 0] rfl)
  refine lv_iload_n hx hb d_TM_steps_0 rfl (lv_at hl 1 rfl) ?_
  refine lv_iconst (v := 1) hx hb d_TM_steps_1 (by decide) ?_
  refine lv_icmp_lt hx hb d_TM_steps_2 (tgt := 12) rfl (fun h2t => ?_) (fun h2f => ?_)
  · exact tx_throw (w := tm_wC ad cI cL cZ) (u := u) (cls := "java/lang/IllegalArgumentException") (text := "no such number of steps") X htab hE hst h (by decide) kw_269 kw_11 (List.mem_of_getElem? (i := 6) rfl) ta_TM_51 (by decide +kernel) hl.1 d_TM_steps_12 d_TM_steps_15 d_TM_steps_16 d_TM_steps_18 d_TM_steps_21 (by decide) (Nat.le_of_ble_eq_true rfl) (by decide) (by decide) (Or.inl ⟨rfl, rfl, Or.inl h2t⟩)
  · refine lv_iload_n hx hb d_TM_steps_5 rfl (lv_at hl 1 rfl) ?_
    refine lv_sipush (v := 500) hx hb d_TM_steps_6 (by decide) ?_
    refine lv_icmp_le hx hb d_TM_steps_9 (tgt := 22) rfl (fun h9t => ?_) (fun h9f => ?_)
    · refine lv_iconst (v := 0) hx hb d_TM_steps_22 (by decide) ?_
      refine lv_istore_n hx hb d_TM_steps_23 rfl hl (by decide) rfl (fun ls (hl : lv_has ls 3 [(2, .int (0)), (0, .ref (ad 0)), (1, .int (x))]) => ?_)
      exact lp24 _ (u) (0) _ _ _ (Nat.lt_succ_self _) (fun q => q.elim h2f (Int32.not_lt.mpr h9t)) ((tm_rng h2f h9t).1) ((tm_rng h2f h9t).2) (Nat.zero_le _) (hJ) (fun _ _ q => q) (fun _ _ q => q) h (lv_sub hl [1, 2, 0] rfl)
    · exact tx_throw (w := tm_wC ad cI cL cZ) (u := u) (cls := "java/lang/IllegalArgumentException") (text := "no such number of steps") X htab hE hst h (by decide) kw_269 kw_11 (List.mem_of_getElem? (i := 6) rfl) ta_TM_51 (by decide +kernel) hl.1 d_TM_steps_12 d_TM_steps_15 d_TM_steps_16 d_TM_steps_18 d_TM_steps_21 (by decide) (Nat.le_of_ble_eq_true rfl) (by decide) (by decide) (Or.inl ⟨rfl, rfl, Or.inr (Int32.not_le.mp h9f)⟩)
