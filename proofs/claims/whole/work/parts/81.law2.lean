/-! what the two answers say together -/
theorem lq_f1 {k r r0 r2 : Int32} {z z' : tw_S} {u' v' : tm_SC} (e0 : k = 0) (e5 : z'.2 = vp_updL z.2 0 r.toInt64) (q2 : z'.1 = u') (q1 : r = r0) (g : v'.1 13 = 0 ∧ r0 = r2 ∧ sm_J u' v') :
    v'.1 13 = k ∧ (k = 0 → z'.2 0 = r2.toInt64) ∧ sm_J z'.1 v' := by
  obtain ⟨g1, g2, g3⟩ := g
  subst e0; subst q1; subst g2
  rw [q2]
  exact ⟨g1, fun _ => by rw [e5]; exact if_pos rfl, g3⟩
theorem lq_f2 {k c : Int32} {x : Int64} {z' : tw_S} {u' v' : tm_SC} {E E0 : String} {cd : List (String × Int32)} (e4 : k = tw_code cd E) (q1 : E = E0) (q2 : z'.1 = u') (hk : tw_code cd E0 = c) (h0 : ¬ c = 0) (g : v'.1 13 = c ∧ sm_J u' v') :
    v'.1 13 = k ∧ (k = 0 → z'.2 0 = x) ∧ sm_J z'.1 v' := by
  obtain ⟨g1, g3⟩ := g
  subst q1; subst hk; subst e4
  rw [q2]
  exact ⟨g1, fun q => absurd q h0, g3⟩
theorem lq_cod {E : String} (h : ¬ sm_cod E = 0) : E = "java/lang/IllegalArgumentException" ∨ E = "java/util/NoSuchElementException" ∨ E = "java/lang/UnsupportedOperationException" ∨ E = "java/lang/IllegalStateException" := by
  by_cases h1 : E = "java/lang/IllegalArgumentException"
  · exact Or.inl h1
  by_cases h2 : E = "java/util/NoSuchElementException"
  · exact Or.inr (Or.inl h2)
  by_cases h3 : E = "java/lang/UnsupportedOperationException"
  · exact Or.inr (Or.inr (Or.inl h3))
  by_cases h4 : E = "java/lang/IllegalStateException"
  · exact Or.inr (Or.inr (Or.inr h4))
  refine absurd ?_ h
  unfold sm_cod tw_code
  simp only [List.find?, beq_false_of_ne (Ne.symm h1), beq_false_of_ne (Ne.symm h2), beq_false_of_ne (Ne.symm h3), beq_false_of_ne (Ne.symm h4)]
  rfl
theorem lq_sx : ∀ (k : Nat) (u u1 : tm_SC) (E : String), sm_JC u → cs_rx cs_T cs_TX k u E u1 → ¬ sm_cod E = 0
  | 0, u, u1, E, _, h => h.elim
  | k + 1, u, u1, E, hJ, h => by
    obtain ⟨hs, h | ⟨w, hT, h⟩⟩ := h
    · obtain ⟨n, v, hS⟩ := hJ
      obtain ⟨-, a2, ⟨r, v2, a3⟩, -⟩ := sm_step hS hs
      obtain ⟨-, b2, b3, -⟩ := a2 E u1 r v2 h a3
      rw [← b2]; exact b3
    · exact lq_sx k w u1 E (hJ.T hs hT) h
theorem lq_13 (v : tm_SC) (x : Int32) : (tm_sf v 13 x).1 13 = x := by simp [tm_sf, upd]
theorem lq_bad {n : Nat} {u v : tm_SC} (hS : sm_S n u v) (e x : Int32) : (cs_np u e ∨ x < 1 ∨ 120 < x) ↔ (ms_np v e ∨ x < 1 ∨ 120 < x) := or_congr_left (sm_np hS.1 e)
theorem lq_sw {x : Int32} (h0 : ¬ x = 0) (h1 : ¬ x = 1) (h2 : ¬ x = 2) (h3 : ¬ x = 3) (h4 : ¬ x = 4) (h5 : ¬ x = 5) (h6 : ¬ x = 6) (h7 : ¬ x = 7) (h8 : ¬ x = 8) (h9 : ¬ x = 9) (h10 : ¬ x = 10) (h11 : ¬ x = 11) : x.toInt < 0 ∨ 11 < x.toInt := by
  have key : ∀ k : Int32, ¬ x = k → ¬ x.toInt = k.toInt := fun k h q => h (Int32.toInt_inj.mp q)
  have a0 : ¬ x.toInt = 0 := key 0 h0
  have a1 : ¬ x.toInt = 1 := key 1 h1
  have a2 : ¬ x.toInt = 2 := key 2 h2
  have a3 : ¬ x.toInt = 3 := key 3 h3
  have a4 : ¬ x.toInt = 4 := key 4 h4
  have a5 : ¬ x.toInt = 5 := key 5 h5
  have a6 : ¬ x.toInt = 6 := key 6 h6
  have a7 : ¬ x.toInt = 7 := key 7 h7
  have a8 : ¬ x.toInt = 8 := key 8 h8
  have a9 : ¬ x.toInt = 9 := key 9 h9
  have a10 : ¬ x.toInt = 10 := key 10 h10
  have a11 : ¬ x.toInt = 11 := key 11 h11
  omega
theorem lq_ite (f : Nat → Int64) (x : Int32) : vp_updL f 0 (if x = 0 then 0 else 1) 0 = if (if x = 0 then (0 : Int32) else 1) = 0 then 0 else 1 := by
  show (if (0 : Nat) = 0 then _ else _) = _
  rw [if_pos rfl]
  by_cases h : x = 0
  · rw [if_pos h, if_pos h, if_pos rfl]
  · rw [if_neg h, if_neg h, if_neg (by decide)]
theorem kw_0 : (Jvm.Cond.initialized "TrimmedMachineLaw") ∈ tm_wa := tm_tb (List.mem_append_left _ (List.mem_of_getElem? (i := 0) (by decide +kernel))) rfl
theorem kw_172 : (Jvm.Cond.methodLink "TrimmedMachineLaw" (96 : Nat) ({ cls := "TrimmedMachine", name := "about", desc := "(I)I" } : Jvm.MethodName)) ∈ tm_wa := tm_tb (List.mem_append_left _ (List.mem_of_getElem? (i := 172) (by decide +kernel))) rfl
theorem kw_176 : (Jvm.Cond.methodLink "TrimmedMachineLaw" (60 : Nat) ({ cls := "TrimmedMachineLaw", name := "number", desc := "(LTrimmedMachine;I[J)I" } : Jvm.MethodName)) ∈ tm_wa := tm_tb (List.mem_append_left _ (List.mem_of_getElem? (i := 176) (by decide +kernel))) rfl
theorem kw_177 : (Jvm.Cond.static ({ cls := "TrimmedMachineLaw", name := "number", desc := "(LTrimmedMachine;I[J)I" } : Jvm.MethodName)) ∈ tm_wa := tm_tb (List.mem_append_left _ (List.mem_of_getElem? (i := 177) (by decide +kernel))) rfl
theorem kw_257 : (Jvm.Cond.methodLink "TrimmedMachineLaw" (69 : Nat) ({ cls := "TrimmedMachineLaw", name := "variable", desc := "(LTrimmedMachine;I[J)I" } : Jvm.MethodName)) ∈ tm_wa := tm_tb (List.mem_append_right _ (List.mem_append_left _ (List.mem_of_getElem? (i := 17) (by decide +kernel)))) rfl
theorem kw_258 : (Jvm.Cond.static ({ cls := "TrimmedMachineLaw", name := "variable", desc := "(LTrimmedMachine;I[J)I" } : Jvm.MethodName)) ∈ tm_wa := tm_tb (List.mem_append_right _ (List.mem_append_left _ (List.mem_of_getElem? (i := 18) (by decide +kernel)))) rfl
theorem kw_285 : (Jvm.Cond.methodLink "TrimmedMachineLaw" (72 : Nat) ({ cls := "TrimmedMachineLaw", name := "function", desc := "(LTrimmedMachine;III[J)I" } : Jvm.MethodName)) ∈ tm_wa := tm_tb (List.mem_append_right _ (List.mem_append_left _ (List.mem_of_getElem? (i := 45) (by decide +kernel)))) rfl
theorem kw_286 : (Jvm.Cond.static ({ cls := "TrimmedMachineLaw", name := "function", desc := "(LTrimmedMachine;III[J)I" } : Jvm.MethodName)) ∈ tm_wa := tm_tb (List.mem_append_right _ (List.mem_append_left _ (List.mem_of_getElem? (i := 46) (by decide +kernel)))) rfl
theorem kw_302 : (Jvm.Cond.methodLink "TrimmedMachineLaw" (76 : Nat) ({ cls := "TrimmedMachineLaw", name := "call", desc := "(LTrimmedMachine;II[J)I" } : Jvm.MethodName)) ∈ tm_wa := tm_tb (List.mem_append_right _ (List.mem_append_left _ (List.mem_of_getElem? (i := 62) (by decide +kernel)))) rfl
theorem kw_303 : (Jvm.Cond.static ({ cls := "TrimmedMachineLaw", name := "call", desc := "(LTrimmedMachine;II[J)I" } : Jvm.MethodName)) ∈ tm_wa := tm_tb (List.mem_append_right _ (List.mem_append_left _ (List.mem_of_getElem? (i := 63) (by decide +kernel)))) rfl
theorem kw_312 : (Jvm.Cond.methodLink "TrimmedMachineLaw" (80 : Nat) ({ cls := "TrimmedMachineLaw", name := "operation", desc := "(LTrimmedMachine;III[J)I" } : Jvm.MethodName)) ∈ tm_wa := tm_tb (List.mem_append_right _ (List.mem_append_left _ (List.mem_of_getElem? (i := 72) (by decide +kernel)))) rfl
theorem kw_313 : (Jvm.Cond.static ({ cls := "TrimmedMachineLaw", name := "operation", desc := "(LTrimmedMachine;III[J)I" } : Jvm.MethodName)) ∈ tm_wa := tm_tb (List.mem_append_right _ (List.mem_append_left _ (List.mem_of_getElem? (i := 73) (by decide +kernel)))) rfl
theorem kw_320 : (Jvm.Cond.methodLink "TrimmedMachineLaw" (83 : Nat) ({ cls := "TrimmedMachineLaw", name := "choice", desc := "(LTrimmedMachine;III[J)I" } : Jvm.MethodName)) ∈ tm_wa := tm_tb (List.mem_append_right _ (List.mem_append_left _ (List.mem_of_getElem? (i := 80) (by decide +kernel)))) rfl
theorem kw_321 : (Jvm.Cond.static ({ cls := "TrimmedMachineLaw", name := "choice", desc := "(LTrimmedMachine;III[J)I" } : Jvm.MethodName)) ∈ tm_wa := tm_tb (List.mem_append_right _ (List.mem_append_left _ (List.mem_of_getElem? (i := 81) (by decide +kernel)))) rfl
theorem kw_327 : (Jvm.Cond.methodLink "TrimmedMachineLaw" (86 : Nat) ({ cls := "TrimmedMachineLaw", name := "free", desc := "(LTrimmedMachine;I[J)I" } : Jvm.MethodName)) ∈ tm_wa := tm_tb (List.mem_append_right _ (List.mem_append_left _ (List.mem_of_getElem? (i := 87) (by decide +kernel)))) rfl
theorem kw_328 : (Jvm.Cond.static ({ cls := "TrimmedMachineLaw", name := "free", desc := "(LTrimmedMachine;I[J)I" } : Jvm.MethodName)) ∈ tm_wa := tm_tb (List.mem_append_right _ (List.mem_append_left _ (List.mem_of_getElem? (i := 88) (by decide +kernel)))) rfl
theorem kw_334 : (Jvm.Cond.methodLink "TrimmedMachineLaw" (89 : Nat) ({ cls := "TrimmedMachineLaw", name := "begin", desc := "(LTrimmedMachine;II)I" } : Jvm.MethodName)) ∈ tm_wa := tm_tb (List.mem_append_right _ (List.mem_append_left _ (List.mem_of_getElem? (i := 94) (by decide +kernel)))) rfl
theorem kw_335 : (Jvm.Cond.static ({ cls := "TrimmedMachineLaw", name := "begin", desc := "(LTrimmedMachine;II)I" } : Jvm.MethodName)) ∈ tm_wa := tm_tb (List.mem_append_right _ (List.mem_append_left _ (List.mem_of_getElem? (i := 95) (by decide +kernel)))) rfl
theorem kw_401 : (Jvm.Cond.methodLink "TrimmedMachineLaw" (93 : Nat) ({ cls := "TrimmedMachineLaw", name := "steps", desc := "(LTrimmedMachine;I[J)I" } : Jvm.MethodName)) ∈ tm_wa := tm_tb (List.mem_append_right _ (List.mem_append_left _ (List.mem_of_getElem? (i := 161) (by decide +kernel)))) rfl
theorem kw_402 : (Jvm.Cond.static ({ cls := "TrimmedMachineLaw", name := "steps", desc := "(LTrimmedMachine;I[J)I" } : Jvm.MethodName)) ∈ tm_wa := tm_tb (List.mem_append_right _ (List.mem_append_left _ (List.mem_of_getElem? (i := 162) (by decide +kernel)))) rfl
theorem kw_547 : (Jvm.Cond.methodLink "TrimmedMachineLaw" (100 : Nat) ({ cls := "TrimmedMachineLaw", name := "result", desc := "(LTrimmedMachine;[J)I" } : Jvm.MethodName)) ∈ tm_wa := tm_tb (List.mem_append_right _ (List.mem_append_right _ (List.mem_append_left _ (List.mem_of_getElem? (i := 67) (by decide +kernel))))) rfl
theorem kw_548 : (Jvm.Cond.static ({ cls := "TrimmedMachineLaw", name := "result", desc := "(LTrimmedMachine;[J)I" } : Jvm.MethodName)) ∈ tm_wa := tm_tb (List.mem_append_right _ (List.mem_append_right _ (List.mem_append_left _ (List.mem_of_getElem? (i := 68) (by decide +kernel))))) rfl
theorem kw_559 : (Jvm.Cond.methodLink "TrimmedMachineLaw" (104 : Nat) ({ cls := "TrimmedMachineLaw", name := "isClosure", desc := "(LTrimmedMachine;[J)I" } : Jvm.MethodName)) ∈ tm_wa := tm_tb (List.mem_append_right _ (List.mem_append_right _ (List.mem_append_left _ (List.mem_of_getElem? (i := 79) (by decide +kernel))))) rfl
theorem kw_560 : (Jvm.Cond.static ({ cls := "TrimmedMachineLaw", name := "isClosure", desc := "(LTrimmedMachine;[J)I" } : Jvm.MethodName)) ∈ tm_wa := tm_tb (List.mem_append_right _ (List.mem_append_right _ (List.mem_append_left _ (List.mem_of_getElem? (i := 80) (by decide +kernel))))) rfl
theorem kw_666 : (Jvm.Cond.methodLink "TrimmedMachineLaw" (66 : Nat) ({ cls := "TrimmedMachineModel", name := "thrown", desc := "()I" } : Jvm.MethodName)) ∈ tm_wa := tm_tb (List.mem_append_right _ (List.mem_append_right _ (List.mem_append_left _ (List.mem_of_getElem? (i := 186) (by decide +kernel))))) rfl
theorem kw_670 : (Jvm.Cond.methodLink "TrimmedMachineLaw" (65 : Nat) ({ cls := "TrimmedMachineModel", name := "number", desc := "(I)I" } : Jvm.MethodName)) ∈ tm_wa := tm_tb (List.mem_append_right _ (List.mem_append_right _ (List.mem_append_left _ (List.mem_of_getElem? (i := 190) (by decide +kernel))))) rfl
theorem kw_678 : (Jvm.Cond.methodLink "TrimmedMachineLaw" (71 : Nat) ({ cls := "TrimmedMachineModel", name := "variable", desc := "(I)I" } : Jvm.MethodName)) ∈ tm_wa := tm_tb (List.mem_append_right _ (List.mem_append_right _ (List.mem_append_left _ (List.mem_of_getElem? (i := 198) (by decide +kernel))))) rfl
theorem kw_685 : (Jvm.Cond.methodLink "TrimmedMachineLaw" (75 : Nat) ({ cls := "TrimmedMachineModel", name := "function", desc := "(III)I" } : Jvm.MethodName)) ∈ tm_wa := tm_tb (List.mem_append_right _ (List.mem_append_right _ (List.mem_append_left _ (List.mem_of_getElem? (i := 205) (by decide +kernel))))) rfl
theorem kw_701 : (Jvm.Cond.methodLink "TrimmedMachineLaw" (79 : Nat) ({ cls := "TrimmedMachineModel", name := "call", desc := "(II)I" } : Jvm.MethodName)) ∈ tm_wa := tm_tb (List.mem_append_right _ (List.mem_append_right _ (List.mem_append_left _ (List.mem_of_getElem? (i := 221) (by decide +kernel))))) rfl
theorem kw_708 : (Jvm.Cond.methodLink "TrimmedMachineLaw" (82 : Nat) ({ cls := "TrimmedMachineModel", name := "operation", desc := "(III)I" } : Jvm.MethodName)) ∈ tm_wa := tm_tb (List.mem_append_right _ (List.mem_append_right _ (List.mem_append_left _ (List.mem_of_getElem? (i := 228) (by decide +kernel))))) rfl
theorem kw_712 : (Jvm.Cond.methodLink "TrimmedMachineLaw" (85 : Nat) ({ cls := "TrimmedMachineModel", name := "choice", desc := "(III)I" } : Jvm.MethodName)) ∈ tm_wa := tm_tb (List.mem_append_right _ (List.mem_append_right _ (List.mem_append_left _ (List.mem_of_getElem? (i := 232) (by decide +kernel))))) rfl
theorem kw_716 : (Jvm.Cond.methodLink "TrimmedMachineLaw" (88 : Nat) ({ cls := "TrimmedMachineModel", name := "free", desc := "(I)I" } : Jvm.MethodName)) ∈ tm_wa := tm_tb (List.mem_append_right _ (List.mem_append_right _ (List.mem_append_left _ (List.mem_of_getElem? (i := 236) (by decide +kernel))))) rfl
theorem kw_720 : (Jvm.Cond.methodLink "TrimmedMachineLaw" (92 : Nat) ({ cls := "TrimmedMachineModel", name := "begin", desc := "(II)V" } : Jvm.MethodName)) ∈ tm_wa := tm_tb (List.mem_append_right _ (List.mem_append_right _ (List.mem_append_right _ (List.mem_of_getElem? (i := 0) (by decide +kernel))))) rfl
theorem kw_742 : (Jvm.Cond.methodLink "TrimmedMachineLaw" (95 : Nat) ({ cls := "TrimmedMachineModel", name := "steps", desc := "(I)I" } : Jvm.MethodName)) ∈ tm_wa := tm_tb (List.mem_append_right _ (List.mem_append_right _ (List.mem_append_right _ (List.mem_of_getElem? (i := 22) (by decide +kernel))))) rfl
theorem kw_789 : (Jvm.Cond.methodLink "TrimmedMachineLaw" (99 : Nat) ({ cls := "TrimmedMachineModel", name := "about", desc := "(I)I" } : Jvm.MethodName)) ∈ tm_wa := tm_tb (List.mem_append_right _ (List.mem_append_right _ (List.mem_append_right _ (List.mem_of_getElem? (i := 69) (by decide +kernel))))) rfl
theorem kw_793 : (Jvm.Cond.methodLink "TrimmedMachineLaw" (103 : Nat) ({ cls := "TrimmedMachineModel", name := "result", desc := "()I" } : Jvm.MethodName)) ∈ tm_wa := tm_tb (List.mem_append_right _ (List.mem_append_right _ (List.mem_append_right _ (List.mem_of_getElem? (i := 73) (by decide +kernel))))) rfl
theorem kw_797 : (Jvm.Cond.methodLink "TrimmedMachineLaw" (106 : Nat) ({ cls := "TrimmedMachineModel", name := "isClosure", desc := "()Z" } : Jvm.MethodName)) ∈ tm_wa := tm_tb (List.mem_append_right _ (List.mem_append_right _ (List.mem_append_right _ (List.mem_of_getElem? (i := 77) (by decide +kernel))))) rfl
theorem wk_number : tw_ks y_LW_number b_LW_number 4 hh_LW_number 3 := ⟨kw_0, kw_178, ⟨by decide, by decide, by decide +kernel⟩, kw_177⟩
theorem wk_variable : tw_ks y_LW_variable b_LW_variable 4 hh_LW_variable 3 := ⟨kw_0, kw_259, ⟨by decide, by decide, by decide +kernel⟩, kw_258⟩
theorem wk_function : tw_ks y_LW_function b_LW_function 6 hh_LW_function 5 := ⟨kw_0, kw_287, ⟨by decide, by decide, by decide +kernel⟩, kw_286⟩
theorem wk_call : tw_ks y_LW_call b_LW_call 5 hh_LW_call 4 := ⟨kw_0, kw_304, ⟨by decide, by decide, by decide +kernel⟩, kw_303⟩
theorem wk_operation : tw_ks y_LW_operation b_LW_operation 6 hh_LW_operation 5 := ⟨kw_0, kw_314, ⟨by decide, by decide, by decide +kernel⟩, kw_313⟩
theorem wk_choice : tw_ks y_LW_choice b_LW_choice 6 hh_LW_choice 5 := ⟨kw_0, kw_322, ⟨by decide, by decide, by decide +kernel⟩, kw_321⟩
theorem wk_free : tw_ks y_LW_free b_LW_free 4 hh_LW_free 3 := ⟨kw_0, kw_329, ⟨by decide, by decide, by decide +kernel⟩, kw_328⟩
theorem wk_begin : tw_ks y_LW_begin b_LW_begin 4 hh_LW_begin 3 := ⟨kw_0, kw_336, ⟨by decide, by decide, by decide +kernel⟩, kw_335⟩
theorem wk_steps : tw_ks y_LW_steps b_LW_steps 4 hh_LW_steps 3 := ⟨kw_0, kw_403, ⟨by decide, by decide, by decide +kernel⟩, kw_402⟩
theorem wk_result : tw_ks y_LW_result b_LW_result 3 hh_LW_result 2 := ⟨kw_0, kw_549, ⟨by decide, by decide, by decide +kernel⟩, kw_548⟩
theorem wk_isClosure : tw_ks y_LW_isClosure b_LW_isClosure 3 hh_LW_isClosure 2 := ⟨kw_0, kw_561, ⟨by decide, by decide, by decide +kernel⟩, kw_560⟩
theorem d_law_0 : decode code 0 = .ok (.new 8, 3) := by decide +kernel
theorem d_law_3 : decode code 3 = .ok (.dup, 1) := by decide +kernel
theorem d_law_4 : decode code 4 = .ok (.invokespecial 56, 3) := by decide +kernel
theorem d_law_7 : decode code 7 = .ok (.astore_n 1, 1) := by decide +kernel
theorem d_law_8 : decode code 8 = .ok (.new 57, 3) := by decide +kernel
theorem d_law_11 : decode code 11 = .ok (.dup, 1) := by decide +kernel
theorem d_law_12 : decode code 12 = .ok (.invokespecial 59, 3) := by decide +kernel
theorem d_law_15 : decode code 15 = .ok (.astore_n 2, 1) := by decide +kernel
theorem d_law_16 : decode code 16 = .ok (.iconst 1, 1) := by decide +kernel
theorem d_law_17 : decode code 17 = .ok (.newarray .long, 2) := by decide +kernel
theorem d_law_19 : decode code 19 = .ok (.astore_n 3, 1) := by decide +kernel
theorem d_law_20 : decode code 20 = .ok (.iconst 0, 1) := by decide +kernel
theorem d_law_21 : decode code 21 = .ok (.istore 4, 2) := by decide +kernel
theorem d_law_23 : decode code 23 = .ok (.iload 4, 2) := by decide +kernel
theorem d_law_25 : decode code 25 = .ok (.aload_n 0, 1) := by decide +kernel
theorem d_law_26 : decode code 26 = .ok (.arraylength, 1) := by decide +kernel
theorem d_law_27 : decode code 27 = .ok (.iconst 4, 1) := by decide +kernel
theorem d_law_28 : decode code 28 = .ok (.isub, 1) := by decide +kernel
theorem d_law_29 : decode code 29 = .ok (.if_icmp .gt 777, 3) := by decide +kernel
theorem d_law_32 : decode code 32 = .ok (.aload_n 0, 1) := by decide +kernel
theorem d_law_33 : decode code 33 = .ok (.iload 4, 2) := by decide +kernel
theorem d_law_35 : decode code 35 = .ok (.iaload, 1) := by decide +kernel
theorem d_law_36 : decode code 36 = .ok (.bipush 15, 2) := by decide +kernel
theorem d_law_38 : decode code 38 = .ok (.iand, 1) := by decide +kernel
theorem d_law_39 : decode code 39 = .ok (.tableswitch 761 0 11 #[61, 117, 173, 253, 321, 401, 481, 537, 585, 641, 666, 710], 61) := by decide +kernel
theorem d_law_100 : decode code 100 = .ok (.aload_n 1, 1) := by decide +kernel
theorem d_law_101 : decode code 101 = .ok (.aload_n 0, 1) := by decide +kernel
theorem d_law_102 : decode code 102 = .ok (.iload 4, 2) := by decide +kernel
theorem d_law_104 : decode code 104 = .ok (.iconst 1, 1) := by decide +kernel
theorem d_law_105 : decode code 105 = .ok (.iadd, 1) := by decide +kernel
theorem d_law_106 : decode code 106 = .ok (.iaload, 1) := by decide +kernel
theorem d_law_107 : decode code 107 = .ok (.aload_n 3, 1) := by decide +kernel
theorem d_law_108 : decode code 108 = .ok (.invokestatic 60, 3) := by decide +kernel
theorem d_law_111 : decode code 111 = .ok (.istore 5, 2) := by decide +kernel
theorem d_law_113 : decode code 113 = .ok (.aload_n 2, 1) := by decide +kernel
theorem d_law_114 : decode code 114 = .ok (.aload_n 0, 1) := by decide +kernel
theorem d_law_115 : decode code 115 = .ok (.iload 4, 2) := by decide +kernel
theorem d_law_117 : decode code 117 = .ok (.iconst 1, 1) := by decide +kernel
theorem d_law_118 : decode code 118 = .ok (.iadd, 1) := by decide +kernel
theorem d_law_119 : decode code 119 = .ok (.iaload, 1) := by decide +kernel
theorem d_law_120 : decode code 120 = .ok (.invokevirtual 65, 3) := by decide +kernel
theorem d_law_123 : decode code 123 = .ok (.istore 6, 2) := by decide +kernel
theorem d_law_125 : decode code 125 = .ok (.aload_n 2, 1) := by decide +kernel
theorem d_law_126 : decode code 126 = .ok (.invokevirtual 66, 3) := by decide +kernel
theorem d_law_129 : decode code 129 = .ok (.iload 5, 2) := by decide +kernel
theorem d_law_131 : decode code 131 = .ok (.if_icmp .eq 5, 3) := by decide +kernel
theorem d_law_136 : decode code 136 = .ok (.iload 5, 2) := by decide +kernel
theorem d_law_138 : decode code 138 = .ok (.ifCond .ne 15, 3) := by decide +kernel
theorem d_law_141 : decode code 141 = .ok (.aload_n 3, 1) := by decide +kernel
theorem d_law_142 : decode code 142 = .ok (.iconst 0, 1) := by decide +kernel
theorem d_law_143 : decode code 143 = .ok (.laload, 1) := by decide +kernel
theorem d_law_144 : decode code 144 = .ok (.iload 6, 2) := by decide +kernel
theorem d_law_146 : decode code 146 = .ok (.i2l, 1) := by decide +kernel
theorem d_law_147 : decode code 147 = .ok (.lcmp, 1) := by decide +kernel
theorem d_law_148 : decode code 148 = .ok (.ifCond .eq 5, 3) := by decide +kernel
theorem d_law_153 : decode code 153 = .ok (.goto 647, 3) := by decide +kernel
theorem d_law_156 : decode code 156 = .ok (.aload_n 1, 1) := by decide +kernel
theorem d_law_157 : decode code 157 = .ok (.aload_n 0, 1) := by decide +kernel
theorem d_law_158 : decode code 158 = .ok (.iload 4, 2) := by decide +kernel
theorem d_law_160 : decode code 160 = .ok (.iconst 1, 1) := by decide +kernel
theorem d_law_161 : decode code 161 = .ok (.iadd, 1) := by decide +kernel
theorem d_law_162 : decode code 162 = .ok (.iaload, 1) := by decide +kernel
theorem d_law_163 : decode code 163 = .ok (.aload_n 3, 1) := by decide +kernel
theorem d_law_164 : decode code 164 = .ok (.invokestatic 69, 3) := by decide +kernel
theorem d_law_167 : decode code 167 = .ok (.istore 5, 2) := by decide +kernel
theorem d_law_169 : decode code 169 = .ok (.aload_n 2, 1) := by decide +kernel
theorem d_law_170 : decode code 170 = .ok (.aload_n 0, 1) := by decide +kernel
theorem d_law_171 : decode code 171 = .ok (.iload 4, 2) := by decide +kernel
theorem d_law_173 : decode code 173 = .ok (.iconst 1, 1) := by decide +kernel
theorem d_law_174 : decode code 174 = .ok (.iadd, 1) := by decide +kernel
theorem d_law_175 : decode code 175 = .ok (.iaload, 1) := by decide +kernel
theorem d_law_176 : decode code 176 = .ok (.invokevirtual 71, 3) := by decide +kernel
theorem d_law_179 : decode code 179 = .ok (.istore 6, 2) := by decide +kernel
theorem d_law_181 : decode code 181 = .ok (.aload_n 2, 1) := by decide +kernel
theorem d_law_182 : decode code 182 = .ok (.invokevirtual 66, 3) := by decide +kernel
theorem d_law_185 : decode code 185 = .ok (.iload 5, 2) := by decide +kernel
theorem d_law_187 : decode code 187 = .ok (.if_icmp .eq 5, 3) := by decide +kernel
theorem d_law_192 : decode code 192 = .ok (.iload 5, 2) := by decide +kernel
theorem d_law_194 : decode code 194 = .ok (.ifCond .ne 15, 3) := by decide +kernel
theorem d_law_197 : decode code 197 = .ok (.aload_n 3, 1) := by decide +kernel
theorem d_law_198 : decode code 198 = .ok (.iconst 0, 1) := by decide +kernel
theorem d_law_199 : decode code 199 = .ok (.laload, 1) := by decide +kernel
theorem d_law_200 : decode code 200 = .ok (.iload 6, 2) := by decide +kernel
theorem d_law_202 : decode code 202 = .ok (.i2l, 1) := by decide +kernel
theorem d_law_203 : decode code 203 = .ok (.lcmp, 1) := by decide +kernel
theorem d_law_204 : decode code 204 = .ok (.ifCond .eq 5, 3) := by decide +kernel
theorem d_law_209 : decode code 209 = .ok (.goto 591, 3) := by decide +kernel
theorem d_law_212 : decode code 212 = .ok (.aload_n 1, 1) := by decide +kernel
theorem d_law_213 : decode code 213 = .ok (.aload_n 0, 1) := by decide +kernel
theorem d_law_214 : decode code 214 = .ok (.iload 4, 2) := by decide +kernel
theorem d_law_216 : decode code 216 = .ok (.iconst 1, 1) := by decide +kernel
theorem d_law_217 : decode code 217 = .ok (.iadd, 1) := by decide +kernel
theorem d_law_218 : decode code 218 = .ok (.iaload, 1) := by decide +kernel
theorem d_law_219 : decode code 219 = .ok (.aload_n 0, 1) := by decide +kernel
theorem d_law_220 : decode code 220 = .ok (.iload 4, 2) := by decide +kernel
theorem d_law_222 : decode code 222 = .ok (.iconst 2, 1) := by decide +kernel
theorem d_law_223 : decode code 223 = .ok (.iadd, 1) := by decide +kernel
theorem d_law_224 : decode code 224 = .ok (.iaload, 1) := by decide +kernel
theorem d_law_225 : decode code 225 = .ok (.aload_n 0, 1) := by decide +kernel
theorem d_law_226 : decode code 226 = .ok (.iload 4, 2) := by decide +kernel
theorem d_law_228 : decode code 228 = .ok (.iconst 3, 1) := by decide +kernel
theorem d_law_229 : decode code 229 = .ok (.iadd, 1) := by decide +kernel
theorem d_law_230 : decode code 230 = .ok (.iaload, 1) := by decide +kernel
theorem d_law_231 : decode code 231 = .ok (.aload_n 3, 1) := by decide +kernel
theorem d_law_232 : decode code 232 = .ok (.invokestatic 72, 3) := by decide +kernel
theorem d_law_235 : decode code 235 = .ok (.istore 5, 2) := by decide +kernel
theorem d_law_237 : decode code 237 = .ok (.aload_n 2, 1) := by decide +kernel
theorem d_law_238 : decode code 238 = .ok (.aload_n 0, 1) := by decide +kernel
theorem d_law_239 : decode code 239 = .ok (.iload 4, 2) := by decide +kernel
theorem d_law_241 : decode code 241 = .ok (.iconst 1, 1) := by decide +kernel
theorem d_law_242 : decode code 242 = .ok (.iadd, 1) := by decide +kernel
theorem d_law_243 : decode code 243 = .ok (.iaload, 1) := by decide +kernel
theorem d_law_244 : decode code 244 = .ok (.aload_n 0, 1) := by decide +kernel
theorem d_law_245 : decode code 245 = .ok (.iload 4, 2) := by decide +kernel
theorem d_law_247 : decode code 247 = .ok (.iconst 2, 1) := by decide +kernel
theorem d_law_248 : decode code 248 = .ok (.iadd, 1) := by decide +kernel
theorem d_law_249 : decode code 249 = .ok (.iaload, 1) := by decide +kernel
theorem d_law_250 : decode code 250 = .ok (.aload_n 0, 1) := by decide +kernel
theorem d_law_251 : decode code 251 = .ok (.iload 4, 2) := by decide +kernel
theorem d_law_253 : decode code 253 = .ok (.iconst 3, 1) := by decide +kernel
theorem d_law_254 : decode code 254 = .ok (.iadd, 1) := by decide +kernel
theorem d_law_255 : decode code 255 = .ok (.iaload, 1) := by decide +kernel
theorem d_law_256 : decode code 256 = .ok (.invokevirtual 75, 3) := by decide +kernel
theorem d_law_259 : decode code 259 = .ok (.istore 6, 2) := by decide +kernel
theorem d_law_261 : decode code 261 = .ok (.aload_n 2, 1) := by decide +kernel
theorem d_law_262 : decode code 262 = .ok (.invokevirtual 66, 3) := by decide +kernel
theorem d_law_265 : decode code 265 = .ok (.iload 5, 2) := by decide +kernel
theorem d_law_267 : decode code 267 = .ok (.if_icmp .eq 5, 3) := by decide +kernel
theorem d_law_272 : decode code 272 = .ok (.iload 5, 2) := by decide +kernel
theorem d_law_274 : decode code 274 = .ok (.ifCond .ne 15, 3) := by decide +kernel
theorem d_law_277 : decode code 277 = .ok (.aload_n 3, 1) := by decide +kernel
theorem d_law_278 : decode code 278 = .ok (.iconst 0, 1) := by decide +kernel
theorem d_law_279 : decode code 279 = .ok (.laload, 1) := by decide +kernel
theorem d_law_280 : decode code 280 = .ok (.iload 6, 2) := by decide +kernel
theorem d_law_282 : decode code 282 = .ok (.i2l, 1) := by decide +kernel
theorem d_law_283 : decode code 283 = .ok (.lcmp, 1) := by decide +kernel
theorem d_law_284 : decode code 284 = .ok (.ifCond .eq 5, 3) := by decide +kernel
theorem d_law_289 : decode code 289 = .ok (.goto 511, 3) := by decide +kernel
theorem d_law_292 : decode code 292 = .ok (.aload_n 1, 1) := by decide +kernel
theorem d_law_293 : decode code 293 = .ok (.aload_n 0, 1) := by decide +kernel
theorem d_law_294 : decode code 294 = .ok (.iload 4, 2) := by decide +kernel
theorem d_law_296 : decode code 296 = .ok (.iconst 1, 1) := by decide +kernel
theorem d_law_297 : decode code 297 = .ok (.iadd, 1) := by decide +kernel
theorem d_law_298 : decode code 298 = .ok (.iaload, 1) := by decide +kernel
theorem d_law_299 : decode code 299 = .ok (.aload_n 0, 1) := by decide +kernel
theorem d_law_300 : decode code 300 = .ok (.iload 4, 2) := by decide +kernel
theorem d_law_302 : decode code 302 = .ok (.iconst 2, 1) := by decide +kernel
theorem d_law_303 : decode code 303 = .ok (.iadd, 1) := by decide +kernel
theorem d_law_304 : decode code 304 = .ok (.iaload, 1) := by decide +kernel
theorem d_law_305 : decode code 305 = .ok (.aload_n 3, 1) := by decide +kernel
theorem d_law_306 : decode code 306 = .ok (.invokestatic 76, 3) := by decide +kernel
theorem d_law_309 : decode code 309 = .ok (.istore 5, 2) := by decide +kernel
theorem d_law_311 : decode code 311 = .ok (.aload_n 2, 1) := by decide +kernel
theorem d_law_312 : decode code 312 = .ok (.aload_n 0, 1) := by decide +kernel
theorem d_law_313 : decode code 313 = .ok (.iload 4, 2) := by decide +kernel
theorem d_law_315 : decode code 315 = .ok (.iconst 1, 1) := by decide +kernel
theorem d_law_316 : decode code 316 = .ok (.iadd, 1) := by decide +kernel
theorem d_law_317 : decode code 317 = .ok (.iaload, 1) := by decide +kernel
theorem d_law_318 : decode code 318 = .ok (.aload_n 0, 1) := by decide +kernel
theorem d_law_319 : decode code 319 = .ok (.iload 4, 2) := by decide +kernel
theorem d_law_321 : decode code 321 = .ok (.iconst 2, 1) := by decide +kernel
theorem d_law_322 : decode code 322 = .ok (.iadd, 1) := by decide +kernel
theorem d_law_323 : decode code 323 = .ok (.iaload, 1) := by decide +kernel
theorem d_law_324 : decode code 324 = .ok (.invokevirtual 79, 3) := by decide +kernel
theorem d_law_327 : decode code 327 = .ok (.istore 6, 2) := by decide +kernel
theorem d_law_329 : decode code 329 = .ok (.aload_n 2, 1) := by decide +kernel
theorem d_law_330 : decode code 330 = .ok (.invokevirtual 66, 3) := by decide +kernel
theorem d_law_333 : decode code 333 = .ok (.iload 5, 2) := by decide +kernel
theorem d_law_335 : decode code 335 = .ok (.if_icmp .eq 5, 3) := by decide +kernel
theorem d_law_340 : decode code 340 = .ok (.iload 5, 2) := by decide +kernel
theorem d_law_342 : decode code 342 = .ok (.ifCond .ne 15, 3) := by decide +kernel
theorem d_law_345 : decode code 345 = .ok (.aload_n 3, 1) := by decide +kernel
theorem d_law_346 : decode code 346 = .ok (.iconst 0, 1) := by decide +kernel
theorem d_law_347 : decode code 347 = .ok (.laload, 1) := by decide +kernel
theorem d_law_348 : decode code 348 = .ok (.iload 6, 2) := by decide +kernel
theorem d_law_350 : decode code 350 = .ok (.i2l, 1) := by decide +kernel
theorem d_law_351 : decode code 351 = .ok (.lcmp, 1) := by decide +kernel
theorem d_law_352 : decode code 352 = .ok (.ifCond .eq 5, 3) := by decide +kernel
theorem d_law_357 : decode code 357 = .ok (.goto 443, 3) := by decide +kernel
theorem d_law_360 : decode code 360 = .ok (.aload_n 1, 1) := by decide +kernel
theorem d_law_361 : decode code 361 = .ok (.aload_n 0, 1) := by decide +kernel
theorem d_law_362 : decode code 362 = .ok (.iload 4, 2) := by decide +kernel
theorem d_law_364 : decode code 364 = .ok (.iconst 1, 1) := by decide +kernel
theorem d_law_365 : decode code 365 = .ok (.iadd, 1) := by decide +kernel
theorem d_law_366 : decode code 366 = .ok (.iaload, 1) := by decide +kernel
theorem d_law_367 : decode code 367 = .ok (.aload_n 0, 1) := by decide +kernel
theorem d_law_368 : decode code 368 = .ok (.iload 4, 2) := by decide +kernel
theorem d_law_370 : decode code 370 = .ok (.iconst 2, 1) := by decide +kernel
theorem d_law_371 : decode code 371 = .ok (.iadd, 1) := by decide +kernel
theorem d_law_372 : decode code 372 = .ok (.iaload, 1) := by decide +kernel
theorem d_law_373 : decode code 373 = .ok (.aload_n 0, 1) := by decide +kernel
theorem d_law_374 : decode code 374 = .ok (.iload 4, 2) := by decide +kernel
theorem d_law_376 : decode code 376 = .ok (.iconst 3, 1) := by decide +kernel
theorem d_law_377 : decode code 377 = .ok (.iadd, 1) := by decide +kernel
theorem d_law_378 : decode code 378 = .ok (.iaload, 1) := by decide +kernel
theorem d_law_379 : decode code 379 = .ok (.aload_n 3, 1) := by decide +kernel
theorem d_law_380 : decode code 380 = .ok (.invokestatic 80, 3) := by decide +kernel
theorem d_law_383 : decode code 383 = .ok (.istore 5, 2) := by decide +kernel
theorem d_law_385 : decode code 385 = .ok (.aload_n 2, 1) := by decide +kernel
theorem d_law_386 : decode code 386 = .ok (.aload_n 0, 1) := by decide +kernel
theorem d_law_387 : decode code 387 = .ok (.iload 4, 2) := by decide +kernel
theorem d_law_389 : decode code 389 = .ok (.iconst 1, 1) := by decide +kernel
theorem d_law_390 : decode code 390 = .ok (.iadd, 1) := by decide +kernel
theorem d_law_391 : decode code 391 = .ok (.iaload, 1) := by decide +kernel
theorem d_law_392 : decode code 392 = .ok (.aload_n 0, 1) := by decide +kernel
theorem d_law_393 : decode code 393 = .ok (.iload 4, 2) := by decide +kernel
theorem d_law_395 : decode code 395 = .ok (.iconst 2, 1) := by decide +kernel
theorem d_law_396 : decode code 396 = .ok (.iadd, 1) := by decide +kernel
theorem d_law_397 : decode code 397 = .ok (.iaload, 1) := by decide +kernel
theorem d_law_398 : decode code 398 = .ok (.aload_n 0, 1) := by decide +kernel
theorem d_law_399 : decode code 399 = .ok (.iload 4, 2) := by decide +kernel
theorem d_law_401 : decode code 401 = .ok (.iconst 3, 1) := by decide +kernel
theorem d_law_402 : decode code 402 = .ok (.iadd, 1) := by decide +kernel
theorem d_law_403 : decode code 403 = .ok (.iaload, 1) := by decide +kernel
theorem d_law_404 : decode code 404 = .ok (.invokevirtual 82, 3) := by decide +kernel
theorem d_law_407 : decode code 407 = .ok (.istore 6, 2) := by decide +kernel
theorem d_law_409 : decode code 409 = .ok (.aload_n 2, 1) := by decide +kernel
theorem d_law_410 : decode code 410 = .ok (.invokevirtual 66, 3) := by decide +kernel
theorem d_law_413 : decode code 413 = .ok (.iload 5, 2) := by decide +kernel
theorem d_law_415 : decode code 415 = .ok (.if_icmp .eq 5, 3) := by decide +kernel
theorem d_law_420 : decode code 420 = .ok (.iload 5, 2) := by decide +kernel
theorem d_law_422 : decode code 422 = .ok (.ifCond .ne 15, 3) := by decide +kernel
theorem d_law_425 : decode code 425 = .ok (.aload_n 3, 1) := by decide +kernel
theorem d_law_426 : decode code 426 = .ok (.iconst 0, 1) := by decide +kernel
theorem d_law_427 : decode code 427 = .ok (.laload, 1) := by decide +kernel
theorem d_law_428 : decode code 428 = .ok (.iload 6, 2) := by decide +kernel
theorem d_law_430 : decode code 430 = .ok (.i2l, 1) := by decide +kernel
theorem d_law_431 : decode code 431 = .ok (.lcmp, 1) := by decide +kernel
theorem d_law_432 : decode code 432 = .ok (.ifCond .eq 5, 3) := by decide +kernel
theorem d_law_437 : decode code 437 = .ok (.goto 363, 3) := by decide +kernel
theorem d_law_440 : decode code 440 = .ok (.aload_n 1, 1) := by decide +kernel
theorem d_law_441 : decode code 441 = .ok (.aload_n 0, 1) := by decide +kernel
theorem d_law_442 : decode code 442 = .ok (.iload 4, 2) := by decide +kernel
theorem d_law_444 : decode code 444 = .ok (.iconst 1, 1) := by decide +kernel
theorem d_law_445 : decode code 445 = .ok (.iadd, 1) := by decide +kernel
theorem d_law_446 : decode code 446 = .ok (.iaload, 1) := by decide +kernel
theorem d_law_447 : decode code 447 = .ok (.aload_n 0, 1) := by decide +kernel
theorem d_law_448 : decode code 448 = .ok (.iload 4, 2) := by decide +kernel
theorem d_law_450 : decode code 450 = .ok (.iconst 2, 1) := by decide +kernel
theorem d_law_451 : decode code 451 = .ok (.iadd, 1) := by decide +kernel
theorem d_law_452 : decode code 452 = .ok (.iaload, 1) := by decide +kernel
theorem d_law_453 : decode code 453 = .ok (.aload_n 0, 1) := by decide +kernel
theorem d_law_454 : decode code 454 = .ok (.iload 4, 2) := by decide +kernel
theorem d_law_456 : decode code 456 = .ok (.iconst 3, 1) := by decide +kernel
theorem d_law_457 : decode code 457 = .ok (.iadd, 1) := by decide +kernel
theorem d_law_458 : decode code 458 = .ok (.iaload, 1) := by decide +kernel
theorem d_law_459 : decode code 459 = .ok (.aload_n 3, 1) := by decide +kernel
theorem d_law_460 : decode code 460 = .ok (.invokestatic 83, 3) := by decide +kernel
theorem d_law_463 : decode code 463 = .ok (.istore 5, 2) := by decide +kernel
theorem d_law_465 : decode code 465 = .ok (.aload_n 2, 1) := by decide +kernel
theorem d_law_466 : decode code 466 = .ok (.aload_n 0, 1) := by decide +kernel
theorem d_law_467 : decode code 467 = .ok (.iload 4, 2) := by decide +kernel
theorem d_law_469 : decode code 469 = .ok (.iconst 1, 1) := by decide +kernel
theorem d_law_470 : decode code 470 = .ok (.iadd, 1) := by decide +kernel
theorem d_law_471 : decode code 471 = .ok (.iaload, 1) := by decide +kernel
theorem d_law_472 : decode code 472 = .ok (.aload_n 0, 1) := by decide +kernel
theorem d_law_473 : decode code 473 = .ok (.iload 4, 2) := by decide +kernel
theorem d_law_475 : decode code 475 = .ok (.iconst 2, 1) := by decide +kernel
theorem d_law_476 : decode code 476 = .ok (.iadd, 1) := by decide +kernel
theorem d_law_477 : decode code 477 = .ok (.iaload, 1) := by decide +kernel
theorem d_law_478 : decode code 478 = .ok (.aload_n 0, 1) := by decide +kernel
theorem d_law_479 : decode code 479 = .ok (.iload 4, 2) := by decide +kernel
theorem d_law_481 : decode code 481 = .ok (.iconst 3, 1) := by decide +kernel
theorem d_law_482 : decode code 482 = .ok (.iadd, 1) := by decide +kernel
theorem d_law_483 : decode code 483 = .ok (.iaload, 1) := by decide +kernel
theorem d_law_484 : decode code 484 = .ok (.invokevirtual 85, 3) := by decide +kernel
theorem d_law_487 : decode code 487 = .ok (.istore 6, 2) := by decide +kernel
theorem d_law_489 : decode code 489 = .ok (.aload_n 2, 1) := by decide +kernel
theorem d_law_490 : decode code 490 = .ok (.invokevirtual 66, 3) := by decide +kernel
theorem d_law_493 : decode code 493 = .ok (.iload 5, 2) := by decide +kernel
theorem d_law_495 : decode code 495 = .ok (.if_icmp .eq 5, 3) := by decide +kernel
theorem d_law_500 : decode code 500 = .ok (.iload 5, 2) := by decide +kernel
theorem d_law_502 : decode code 502 = .ok (.ifCond .ne 15, 3) := by decide +kernel
theorem d_law_505 : decode code 505 = .ok (.aload_n 3, 1) := by decide +kernel
theorem d_law_506 : decode code 506 = .ok (.iconst 0, 1) := by decide +kernel
theorem d_law_507 : decode code 507 = .ok (.laload, 1) := by decide +kernel
theorem d_law_508 : decode code 508 = .ok (.iload 6, 2) := by decide +kernel
theorem d_law_510 : decode code 510 = .ok (.i2l, 1) := by decide +kernel
theorem d_law_511 : decode code 511 = .ok (.lcmp, 1) := by decide +kernel
theorem d_law_512 : decode code 512 = .ok (.ifCond .eq 5, 3) := by decide +kernel
theorem d_law_517 : decode code 517 = .ok (.goto 283, 3) := by decide +kernel
theorem d_law_520 : decode code 520 = .ok (.aload_n 1, 1) := by decide +kernel
theorem d_law_521 : decode code 521 = .ok (.aload_n 0, 1) := by decide +kernel
theorem d_law_522 : decode code 522 = .ok (.iload 4, 2) := by decide +kernel
theorem d_law_524 : decode code 524 = .ok (.iconst 1, 1) := by decide +kernel
theorem d_law_525 : decode code 525 = .ok (.iadd, 1) := by decide +kernel
theorem d_law_526 : decode code 526 = .ok (.iaload, 1) := by decide +kernel
theorem d_law_527 : decode code 527 = .ok (.aload_n 3, 1) := by decide +kernel
theorem d_law_528 : decode code 528 = .ok (.invokestatic 86, 3) := by decide +kernel
theorem d_law_531 : decode code 531 = .ok (.istore 5, 2) := by decide +kernel
theorem d_law_533 : decode code 533 = .ok (.aload_n 2, 1) := by decide +kernel
theorem d_law_534 : decode code 534 = .ok (.aload_n 0, 1) := by decide +kernel
theorem d_law_535 : decode code 535 = .ok (.iload 4, 2) := by decide +kernel
theorem d_law_537 : decode code 537 = .ok (.iconst 1, 1) := by decide +kernel
theorem d_law_538 : decode code 538 = .ok (.iadd, 1) := by decide +kernel
theorem d_law_539 : decode code 539 = .ok (.iaload, 1) := by decide +kernel
theorem d_law_540 : decode code 540 = .ok (.invokevirtual 88, 3) := by decide +kernel
theorem d_law_543 : decode code 543 = .ok (.istore 6, 2) := by decide +kernel
theorem d_law_545 : decode code 545 = .ok (.aload_n 2, 1) := by decide +kernel
theorem d_law_546 : decode code 546 = .ok (.invokevirtual 66, 3) := by decide +kernel
theorem d_law_549 : decode code 549 = .ok (.iload 5, 2) := by decide +kernel
theorem d_law_551 : decode code 551 = .ok (.if_icmp .eq 5, 3) := by decide +kernel
theorem d_law_556 : decode code 556 = .ok (.iload 5, 2) := by decide +kernel
theorem d_law_558 : decode code 558 = .ok (.ifCond .ne 15, 3) := by decide +kernel
theorem d_law_561 : decode code 561 = .ok (.aload_n 3, 1) := by decide +kernel
theorem d_law_562 : decode code 562 = .ok (.iconst 0, 1) := by decide +kernel
theorem d_law_563 : decode code 563 = .ok (.laload, 1) := by decide +kernel
theorem d_law_564 : decode code 564 = .ok (.iload 6, 2) := by decide +kernel
theorem d_law_566 : decode code 566 = .ok (.i2l, 1) := by decide +kernel
theorem d_law_567 : decode code 567 = .ok (.lcmp, 1) := by decide +kernel
theorem d_law_568 : decode code 568 = .ok (.ifCond .eq 5, 3) := by decide +kernel
theorem d_law_573 : decode code 573 = .ok (.goto 227, 3) := by decide +kernel
theorem d_law_576 : decode code 576 = .ok (.aload_n 1, 1) := by decide +kernel
theorem d_law_577 : decode code 577 = .ok (.aload_n 0, 1) := by decide +kernel
theorem d_law_578 : decode code 578 = .ok (.iload 4, 2) := by decide +kernel
theorem d_law_580 : decode code 580 = .ok (.iconst 1, 1) := by decide +kernel
theorem d_law_581 : decode code 581 = .ok (.iadd, 1) := by decide +kernel
theorem d_law_582 : decode code 582 = .ok (.iaload, 1) := by decide +kernel
theorem d_law_583 : decode code 583 = .ok (.aload_n 0, 1) := by decide +kernel
theorem d_law_584 : decode code 584 = .ok (.iload 4, 2) := by decide +kernel
theorem d_law_586 : decode code 586 = .ok (.iconst 2, 1) := by decide +kernel
theorem d_law_587 : decode code 587 = .ok (.iadd, 1) := by decide +kernel
theorem d_law_588 : decode code 588 = .ok (.iaload, 1) := by decide +kernel
theorem d_law_589 : decode code 589 = .ok (.invokestatic 89, 3) := by decide +kernel
theorem d_law_592 : decode code 592 = .ok (.istore 5, 2) := by decide +kernel
theorem d_law_594 : decode code 594 = .ok (.aload_n 2, 1) := by decide +kernel
theorem d_law_595 : decode code 595 = .ok (.aload_n 0, 1) := by decide +kernel
theorem d_law_596 : decode code 596 = .ok (.iload 4, 2) := by decide +kernel
theorem d_law_598 : decode code 598 = .ok (.iconst 1, 1) := by decide +kernel
theorem d_law_599 : decode code 599 = .ok (.iadd, 1) := by decide +kernel
theorem d_law_600 : decode code 600 = .ok (.iaload, 1) := by decide +kernel
theorem d_law_601 : decode code 601 = .ok (.aload_n 0, 1) := by decide +kernel
theorem d_law_602 : decode code 602 = .ok (.iload 4, 2) := by decide +kernel
theorem d_law_604 : decode code 604 = .ok (.iconst 2, 1) := by decide +kernel
theorem d_law_605 : decode code 605 = .ok (.iadd, 1) := by decide +kernel
theorem d_law_606 : decode code 606 = .ok (.iaload, 1) := by decide +kernel
theorem d_law_607 : decode code 607 = .ok (.invokevirtual 92, 3) := by decide +kernel
theorem d_law_610 : decode code 610 = .ok (.aload_n 2, 1) := by decide +kernel
theorem d_law_611 : decode code 611 = .ok (.invokevirtual 66, 3) := by decide +kernel
theorem d_law_614 : decode code 614 = .ok (.iload 5, 2) := by decide +kernel
theorem d_law_616 : decode code 616 = .ok (.if_icmp .eq 5, 3) := by decide +kernel
theorem d_law_621 : decode code 621 = .ok (.goto 179, 3) := by decide +kernel
theorem d_law_624 : decode code 624 = .ok (.aload_n 1, 1) := by decide +kernel
theorem d_law_625 : decode code 625 = .ok (.aload_n 0, 1) := by decide +kernel
theorem d_law_626 : decode code 626 = .ok (.iload 4, 2) := by decide +kernel
theorem d_law_628 : decode code 628 = .ok (.iconst 1, 1) := by decide +kernel
theorem d_law_629 : decode code 629 = .ok (.iadd, 1) := by decide +kernel
theorem d_law_630 : decode code 630 = .ok (.iaload, 1) := by decide +kernel
theorem d_law_631 : decode code 631 = .ok (.aload_n 3, 1) := by decide +kernel
theorem d_law_632 : decode code 632 = .ok (.invokestatic 93, 3) := by decide +kernel
theorem d_law_635 : decode code 635 = .ok (.istore 5, 2) := by decide +kernel
theorem d_law_637 : decode code 637 = .ok (.aload_n 2, 1) := by decide +kernel
theorem d_law_638 : decode code 638 = .ok (.aload_n 0, 1) := by decide +kernel
theorem d_law_639 : decode code 639 = .ok (.iload 4, 2) := by decide +kernel
theorem d_law_641 : decode code 641 = .ok (.iconst 1, 1) := by decide +kernel
theorem d_law_642 : decode code 642 = .ok (.iadd, 1) := by decide +kernel
theorem d_law_643 : decode code 643 = .ok (.iaload, 1) := by decide +kernel
theorem d_law_644 : decode code 644 = .ok (.invokevirtual 95, 3) := by decide +kernel
theorem d_law_647 : decode code 647 = .ok (.istore 6, 2) := by decide +kernel
theorem d_law_649 : decode code 649 = .ok (.aload_n 2, 1) := by decide +kernel
theorem d_law_650 : decode code 650 = .ok (.invokevirtual 66, 3) := by decide +kernel
theorem d_law_653 : decode code 653 = .ok (.iload 5, 2) := by decide +kernel
theorem d_law_655 : decode code 655 = .ok (.if_icmp .eq 5, 3) := by decide +kernel
theorem d_law_660 : decode code 660 = .ok (.iload 5, 2) := by decide +kernel
theorem d_law_662 : decode code 662 = .ok (.ifCond .ne 15, 3) := by decide +kernel
theorem d_law_665 : decode code 665 = .ok (.aload_n 3, 1) := by decide +kernel
theorem d_law_666 : decode code 666 = .ok (.iconst 0, 1) := by decide +kernel
theorem d_law_667 : decode code 667 = .ok (.laload, 1) := by decide +kernel
theorem d_law_668 : decode code 668 = .ok (.iload 6, 2) := by decide +kernel
theorem d_law_670 : decode code 670 = .ok (.i2l, 1) := by decide +kernel
theorem d_law_671 : decode code 671 = .ok (.lcmp, 1) := by decide +kernel
theorem d_law_672 : decode code 672 = .ok (.ifCond .eq 5, 3) := by decide +kernel
theorem d_law_677 : decode code 677 = .ok (.goto 123, 3) := by decide +kernel
theorem d_law_680 : decode code 680 = .ok (.aload_n 1, 1) := by decide +kernel
theorem d_law_681 : decode code 681 = .ok (.aload_n 0, 1) := by decide +kernel
theorem d_law_682 : decode code 682 = .ok (.iload 4, 2) := by decide +kernel
theorem d_law_684 : decode code 684 = .ok (.iconst 1, 1) := by decide +kernel
theorem d_law_685 : decode code 685 = .ok (.iadd, 1) := by decide +kernel
theorem d_law_686 : decode code 686 = .ok (.iaload, 1) := by decide +kernel
theorem d_law_687 : decode code 687 = .ok (.invokevirtual 96, 3) := by decide +kernel
theorem d_law_690 : decode code 690 = .ok (.aload_n 2, 1) := by decide +kernel
theorem d_law_691 : decode code 691 = .ok (.aload_n 0, 1) := by decide +kernel
theorem d_law_692 : decode code 692 = .ok (.iload 4, 2) := by decide +kernel
theorem d_law_694 : decode code 694 = .ok (.iconst 1, 1) := by decide +kernel
theorem d_law_695 : decode code 695 = .ok (.iadd, 1) := by decide +kernel
theorem d_law_696 : decode code 696 = .ok (.iaload, 1) := by decide +kernel
theorem d_law_697 : decode code 697 = .ok (.invokevirtual 99, 3) := by decide +kernel
theorem d_law_700 : decode code 700 = .ok (.if_icmp .eq 100, 3) := by decide +kernel
theorem d_law_705 : decode code 705 = .ok (.aload_n 1, 1) := by decide +kernel
theorem d_law_706 : decode code 706 = .ok (.aload_n 3, 1) := by decide +kernel
theorem d_law_707 : decode code 707 = .ok (.invokestatic 100, 3) := by decide +kernel
theorem d_law_710 : decode code 710 = .ok (.istore 5, 2) := by decide +kernel
theorem d_law_712 : decode code 712 = .ok (.aload_n 2, 1) := by decide +kernel
theorem d_law_713 : decode code 713 = .ok (.invokevirtual 103, 3) := by decide +kernel
theorem d_law_716 : decode code 716 = .ok (.istore 6, 2) := by decide +kernel
theorem d_law_718 : decode code 718 = .ok (.aload_n 2, 1) := by decide +kernel
theorem d_law_719 : decode code 719 = .ok (.invokevirtual 66, 3) := by decide +kernel
theorem d_law_722 : decode code 722 = .ok (.iload 5, 2) := by decide +kernel
theorem d_law_724 : decode code 724 = .ok (.if_icmp .eq 5, 3) := by decide +kernel
theorem d_law_729 : decode code 729 = .ok (.iload 5, 2) := by decide +kernel
theorem d_law_731 : decode code 731 = .ok (.ifCond .ne 15, 3) := by decide +kernel
theorem d_law_734 : decode code 734 = .ok (.aload_n 3, 1) := by decide +kernel
theorem d_law_735 : decode code 735 = .ok (.iconst 0, 1) := by decide +kernel
theorem d_law_736 : decode code 736 = .ok (.laload, 1) := by decide +kernel
theorem d_law_737 : decode code 737 = .ok (.iload 6, 2) := by decide +kernel
theorem d_law_739 : decode code 739 = .ok (.i2l, 1) := by decide +kernel
theorem d_law_740 : decode code 740 = .ok (.lcmp, 1) := by decide +kernel
theorem d_law_741 : decode code 741 = .ok (.ifCond .eq 5, 3) := by decide +kernel
theorem d_law_746 : decode code 746 = .ok (.goto 54, 3) := by decide +kernel
theorem d_law_749 : decode code 749 = .ok (.aload_n 1, 1) := by decide +kernel
theorem d_law_750 : decode code 750 = .ok (.aload_n 3, 1) := by decide +kernel
theorem d_law_751 : decode code 751 = .ok (.invokestatic 104, 3) := by decide +kernel
theorem d_law_754 : decode code 754 = .ok (.istore 5, 2) := by decide +kernel
theorem d_law_756 : decode code 756 = .ok (.aload_n 2, 1) := by decide +kernel
theorem d_law_757 : decode code 757 = .ok (.invokevirtual 106, 3) := by decide +kernel
theorem d_law_760 : decode code 760 = .ok (.istore 6, 2) := by decide +kernel
theorem d_law_762 : decode code 762 = .ok (.aload_n 2, 1) := by decide +kernel
theorem d_law_763 : decode code 763 = .ok (.invokevirtual 66, 3) := by decide +kernel
theorem d_law_766 : decode code 766 = .ok (.iload 5, 2) := by decide +kernel
theorem d_law_768 : decode code 768 = .ok (.if_icmp .eq 5, 3) := by decide +kernel
theorem d_law_773 : decode code 773 = .ok (.iload 5, 2) := by decide +kernel
theorem d_law_775 : decode code 775 = .ok (.ifCond .ne 22, 3) := by decide +kernel
theorem d_law_778 : decode code 778 = .ok (.aload_n 3, 1) := by decide +kernel
theorem d_law_779 : decode code 779 = .ok (.iconst 0, 1) := by decide +kernel
theorem d_law_780 : decode code 780 = .ok (.laload, 1) := by decide +kernel
theorem d_law_781 : decode code 781 = .ok (.iload 6, 2) := by decide +kernel
theorem d_law_783 : decode code 783 = .ok (.ifCond .eq 7, 3) := by decide +kernel
theorem d_law_786 : decode code 786 = .ok (.lconst 1, 1) := by decide +kernel
theorem d_law_787 : decode code 787 = .ok (.goto 4, 3) := by decide +kernel
theorem d_law_790 : decode code 790 = .ok (.lconst 0, 1) := by decide +kernel
theorem d_law_791 : decode code 791 = .ok (.lcmp, 1) := by decide +kernel
theorem d_law_792 : decode code 792 = .ok (.ifCond .eq 5, 3) := by decide +kernel
theorem d_law_797 : decode code 797 = .ok (.goto 3, 3) := by decide +kernel
theorem d_law_800 : decode code 800 = .ok (.iinc 4 4, 3) := by decide +kernel
theorem d_law_803 : decode code 803 = .ok (.goto (-780), 3) := by decide +kernel
theorem d_law_806 : decode code 806 = .ok (.iconst 1, 1) := by decide +kernel
theorem d_law_807 : decode code 807 = .ok (.ireturn, 1) := by decide +kernel
set_option maxHeartbeats 4000000 in
set_option maxRecDepth 100000 in
theorem lq_k_number {p : Program} {l : Launch} {e : Env} {s : State} {m : MethodId} {below : List Frame} {meth : Method} {c : Code} {H : Heap} {locs : List Loc} {cells slots : Nat} {Q : State → Prop} {ls : Array Slot} {D : va_G} {A : Nat → Prop} {cI cL cZ : ClassId} {b L : Nat} {xs : Nat → Int32} {qo : Nat} {aC aM : Nat → Nat} {z : tw_S} {v : tm_SC} {t n : Nat} (C : lq_X l p m c s b meth D A cI cL cZ L xs) (ht : 4 * t + 4 ≤ L) (hS : sm_S n z.1 v) (hc : cells + 1 ≤ 1075) (hs : slots + 6 ≤ 17767) (h : tm_H D A s (lq_w qo aC aM cI cL cZ z v) H locs) (hl : lv_has ls 7 [(0, .ref (b)), (1, .ref (aC 0)), (2, .ref (aM 0)), (3, .ref (qo)), (4, .int (nI (4 * t)))])
    (kk : ∀ (z' : tw_S) (v' : tm_SC) (H1 : Heap) (locs1 : List Loc) (ls1 : Array Slot), sm_J z'.1 v' → tm_H D A s (lq_w qo aC aM cI cL cZ z' v') H1 locs1 → lv_has ls1 7 [(0, .ref (b)), (1, .ref (aC 0)), (2, .ref (aM 0)), (3, .ref (qo)), (4, .int (nI (4 * t)))] → W p l e room_1 s m #[Value.ref b] below meth c H1 locs1 (cells + 1) (slots + 6) Q (F0 m 800 ls1 [])) : W p l e room_1 s m #[Value.ref b] below meth c H locs cells slots Q (F0 m 100 ls []) := by
  have X := C.1
  have hx := X.1.1
  have hb := X.1.2.1
  have hst := C.2.2.2.2.2.2.1
  refine lv_aload_n hx hb d_law_100 rfl (lv_at hl 1 rfl) ?_
  refine lv_aload_n hx hb d_law_101 rfl (lv_at hl 0 rfl) ?_
  refine lv_iload hx hb d_law_102 (lv_at hl 4 rfl) ?_
  refine lv_iconst (v := 1) hx hb d_law_104 (by decide) ?_
  refine lv_iadd hx hb d_law_105 ?_
  refine lq_ld C h (4 * t + 1) (by omega) (nI_add (4 * t) 1) d_law_106 ?_
  refine lv_aload_n hx hb d_law_107 rfl (lv_at hl 3 rfl) ?_
  refine lq_cW C h (c_LW_number l D cI cL cZ aC qo (xs (4 * t + 1)) z _ _ (c_TM_number l D cI cL cZ aC hst n (xs (4 * t + 1)) z.1 hS.1.2.1 hS.1.1) (fun E v9 q => q.1)) wk_number kw_176 rfl rfl ⟨by decide, by decide⟩ rfl hl.1 rfl (Nat.le_of_ble_eq_true rfl) d_law_108 hc hs (fun k z1 H locs hp h => ?_)
  refine lv_istore hx hb d_law_111 hl (by decide) rfl (fun ls (hl : lv_has ls 7 [(5, .int (k)), (0, .ref (b)), (1, .ref (aC 0)), (2, .ref (aM 0)), (3, .ref (qo)), (4, .int (nI (4 * t)))]) => ?_)
  refine lv_aload_n hx hb d_law_113 rfl (lv_at hl 3 rfl) ?_
  refine lv_aload_n hx hb d_law_114 rfl (lv_at hl 1 rfl) ?_
  refine lv_iload hx hb d_law_115 (lv_at hl 5 rfl) ?_
  refine lv_iconst (v := 1) hx hb d_law_117 (by decide) ?_
  refine lv_iadd hx hb d_law_118 ?_
  refine lq_ld C h (4 * t + 1) (by omega) (nI_add (4 * t) 1) d_law_119 ?_
  refine lq_cM C h (c_MD_number l D cI cZ aM n (xs (4 * t + 1)) v hS.1.2.2.1 hS.1.1) ki_MD_number kw_670 rfl rfl rfl ⟨by decide, by decide⟩ rfl hl.1 rfl (Nat.le_of_ble_eq_true rfl) d_law_120 hc hs (fun r2 v1 H locs hp2 h => ?_)
  obtain ⟨g1, g2⟩ := sm_number hS (xs (4 * t + 1))
  have hf : v1.1 13 = k ∧ (k = 0 → z1.2 0 = r2.toInt64) ∧ sm_J z1.1 v1 := by
    obtain ⟨e1, e2⟩ := hp2
    rw [← e1, ← e2] at g1
    rw [← e2] at g2
    rcases hp with ⟨e0, r, ⟨⟨q1, q2⟩, q3⟩, e5⟩ | ⟨E, ⟨q1, q2, q3⟩, e4, e5⟩
    · exact lq_f1 e0 e5 q2 q1 (g1 q3)
    · exact lq_f2 e4 q1 q2 rfl (by decide) (g2 q3)
  refine lv_istore hx hb d_law_123 hl (by decide) rfl (fun ls (hl : lv_has ls 7 [(6, .int (r2)), (5, .int (k)), (0, .ref (b)), (1, .ref (aC 0)), (2, .ref (aM 0)), (3, .ref (qo)), (4, .int (nI (4 * t)))]) => ?_)
  refine lv_aload_n hx hb d_law_125 rfl (lv_at hl 4 rfl) ?_
  refine lq_cM C h (c_MD_thrown l D cI cZ aM v1) ki_MD_thrown kw_666 rfl rfl rfl ⟨by decide, by decide⟩ rfl hl.1 rfl (Nat.le_of_ble_eq_true rfl) d_law_126 hc hs (fun r3 v2 H locs hp3 h => ?_)
  obtain ⟨e31, e32⟩ := hp3
  rw [e32] at h
  refine lv_iload hx hb d_law_129 (lv_at hl 1 rfl) ?_
  refine lv_icmp_eq hx hb d_law_131 (tgt := 136) rfl (fun _ => ?_) (fun q => absurd (e31.trans hf.1) q)
  refine lv_iload hx hb d_law_136 (lv_at hl 1 rfl) ?_
  refine lv_if_ne hx hb d_law_138 (tgt := 153) rfl (fun h138t => ?_) (fun h138f => ?_)
  · refine lv_goto hx hb d_law_153 (tgt := 800) rfl ?_
    exact kk _ _ _ _ _ hf.2.2 h (lv_sub hl [2, 3, 4, 5, 6] rfl)
  · refine lv_aload_n hx hb d_law_141 rfl (lv_at hl 5 rfl) ?_
    refine lv_iconst (v := 0) hx hb d_law_142 (by decide) ?_
    refine tm_lald X h 0 1 rfl rfl 0 (by decide) rfl (by decide) d_law_143 ?_
    refine lv_iload hx hb d_law_144 (lv_at hl 0 rfl) ?_
    refine lv_i2l hx hb d_law_146 rfl ?_
    refine W.lcmp hx hb d_law_147 ?_
    refine lv_if_eq hx hb d_law_148 (tgt := 153) rfl (fun _ => ?_) (fun q => absurd ((lg_cmp_eq _ _).mpr (hf.2.1 h138f)) q)
    refine lv_goto hx hb d_law_153 (tgt := 800) rfl ?_
    exact kk _ _ _ _ _ hf.2.2 h (lv_sub hl [2, 3, 4, 5, 6] rfl)
set_option maxHeartbeats 4000000 in
set_option maxRecDepth 100000 in
theorem lq_k_variable {p : Program} {l : Launch} {e : Env} {s : State} {m : MethodId} {below : List Frame} {meth : Method} {c : Code} {H : Heap} {locs : List Loc} {cells slots : Nat} {Q : State → Prop} {ls : Array Slot} {D : va_G} {A : Nat → Prop} {cI cL cZ : ClassId} {b L : Nat} {xs : Nat → Int32} {qo : Nat} {aC aM : Nat → Nat} {z : tw_S} {v : tm_SC} {t n : Nat} (C : lq_X l p m c s b meth D A cI cL cZ L xs) (ht : 4 * t + 4 ≤ L) (hS : sm_S n z.1 v) (hc : cells + 1 ≤ 1075) (hs : slots + 6 ≤ 17767) (h : tm_H D A s (lq_w qo aC aM cI cL cZ z v) H locs) (hl : lv_has ls 7 [(0, .ref (b)), (1, .ref (aC 0)), (2, .ref (aM 0)), (3, .ref (qo)), (4, .int (nI (4 * t)))])
    (kk : ∀ (z' : tw_S) (v' : tm_SC) (H1 : Heap) (locs1 : List Loc) (ls1 : Array Slot), sm_J z'.1 v' → tm_H D A s (lq_w qo aC aM cI cL cZ z' v') H1 locs1 → lv_has ls1 7 [(0, .ref (b)), (1, .ref (aC 0)), (2, .ref (aM 0)), (3, .ref (qo)), (4, .int (nI (4 * t)))] → W p l e room_1 s m #[Value.ref b] below meth c H1 locs1 (cells + 1) (slots + 6) Q (F0 m 800 ls1 [])) : W p l e room_1 s m #[Value.ref b] below meth c H locs cells slots Q (F0 m 156 ls []) := by
  have X := C.1
  have hx := X.1.1
  have hb := X.1.2.1
  have hst := C.2.2.2.2.2.2.1
  refine lv_aload_n hx hb d_law_156 rfl (lv_at hl 1 rfl) ?_
  refine lv_aload_n hx hb d_law_157 rfl (lv_at hl 0 rfl) ?_
  refine lv_iload hx hb d_law_158 (lv_at hl 4 rfl) ?_
  refine lv_iconst (v := 1) hx hb d_law_160 (by decide) ?_
  refine lv_iadd hx hb d_law_161 ?_
  refine lq_ld C h (4 * t + 1) (by omega) (nI_add (4 * t) 1) d_law_162 ?_
  refine lv_aload_n hx hb d_law_163 rfl (lv_at hl 3 rfl) ?_
  refine lq_cW C h (c_LW_variable l D cI cL cZ aC qo (xs (4 * t + 1)) z _ _ (c_TM_variable l D cI cL cZ aC hst n (xs (4 * t + 1)) z.1 hS.1.2.1 hS.1.1) (fun E v9 q => q.elim (fun w => Or.inl w.1) (fun w => Or.inr w.1))) wk_variable kw_257 rfl rfl ⟨by decide, by decide⟩ rfl hl.1 rfl (Nat.le_of_ble_eq_true rfl) d_law_164 hc hs (fun k z1 H locs hp h => ?_)
  refine lv_istore hx hb d_law_167 hl (by decide) rfl (fun ls (hl : lv_has ls 7 [(5, .int (k)), (0, .ref (b)), (1, .ref (aC 0)), (2, .ref (aM 0)), (3, .ref (qo)), (4, .int (nI (4 * t)))]) => ?_)
  refine lv_aload_n hx hb d_law_169 rfl (lv_at hl 3 rfl) ?_
  refine lv_aload_n hx hb d_law_170 rfl (lv_at hl 1 rfl) ?_
  refine lv_iload hx hb d_law_171 (lv_at hl 5 rfl) ?_
  refine lv_iconst (v := 1) hx hb d_law_173 (by decide) ?_
  refine lv_iadd hx hb d_law_174 ?_
  refine lq_ld C h (4 * t + 1) (by omega) (nI_add (4 * t) 1) d_law_175 ?_
  refine lq_cM C h (c_MD_variable l D cI cZ aM n (xs (4 * t + 1)) v hS.1.2.2.1 hS.1.1) ki_MD_variable kw_678 rfl rfl rfl ⟨by decide, by decide⟩ rfl hl.1 rfl (Nat.le_of_ble_eq_true rfl) d_law_176 hc hs (fun r2 v1 H locs hp2 h => ?_)
  obtain ⟨g1, g2, g3⟩ := sm_variable hS (xs (4 * t + 1))
  have hf : v1.1 13 = k ∧ (k = 0 → z1.2 0 = r2.toInt64) ∧ sm_J z1.1 v1 := by
    obtain ⟨e1, e2⟩ := hp2
    rw [← e1, ← e2] at g1
    rw [← e2] at g2 g3
    rcases hp with ⟨e0, r, ⟨⟨q1, q2⟩, q3, q4⟩, e5⟩ | ⟨E, (⟨q1, q2, q3⟩ | ⟨q1, q2, q3, q4⟩), e4, e5⟩
    · exact lq_f1 e0 e5 q2 q1 (g1 q3 q4)
    · exact lq_f2 e4 q1 q2 rfl (by decide) (g2 q3)
    · exact lq_f2 e4 q1 q2 rfl (by decide) (g3 q3 q4)
  refine lv_istore hx hb d_law_179 hl (by decide) rfl (fun ls (hl : lv_has ls 7 [(6, .int (r2)), (5, .int (k)), (0, .ref (b)), (1, .ref (aC 0)), (2, .ref (aM 0)), (3, .ref (qo)), (4, .int (nI (4 * t)))]) => ?_)
  refine lv_aload_n hx hb d_law_181 rfl (lv_at hl 4 rfl) ?_
  refine lq_cM C h (c_MD_thrown l D cI cZ aM v1) ki_MD_thrown kw_666 rfl rfl rfl ⟨by decide, by decide⟩ rfl hl.1 rfl (Nat.le_of_ble_eq_true rfl) d_law_182 hc hs (fun r3 v2 H locs hp3 h => ?_)
  obtain ⟨e31, e32⟩ := hp3
  rw [e32] at h
  refine lv_iload hx hb d_law_185 (lv_at hl 1 rfl) ?_
  refine lv_icmp_eq hx hb d_law_187 (tgt := 192) rfl (fun _ => ?_) (fun q => absurd (e31.trans hf.1) q)
  refine lv_iload hx hb d_law_192 (lv_at hl 1 rfl) ?_
  refine lv_if_ne hx hb d_law_194 (tgt := 209) rfl (fun h194t => ?_) (fun h194f => ?_)
  · refine lv_goto hx hb d_law_209 (tgt := 800) rfl ?_
    exact kk _ _ _ _ _ hf.2.2 h (lv_sub hl [2, 3, 4, 5, 6] rfl)
  · refine lv_aload_n hx hb d_law_197 rfl (lv_at hl 5 rfl) ?_
    refine lv_iconst (v := 0) hx hb d_law_198 (by decide) ?_
    refine tm_lald X h 0 1 rfl rfl 0 (by decide) rfl (by decide) d_law_199 ?_
    refine lv_iload hx hb d_law_200 (lv_at hl 0 rfl) ?_
    refine lv_i2l hx hb d_law_202 rfl ?_
    refine W.lcmp hx hb d_law_203 ?_
    refine lv_if_eq hx hb d_law_204 (tgt := 209) rfl (fun _ => ?_) (fun q => absurd ((lg_cmp_eq _ _).mpr (hf.2.1 h194f)) q)
    refine lv_goto hx hb d_law_209 (tgt := 800) rfl ?_
    exact kk _ _ _ _ _ hf.2.2 h (lv_sub hl [2, 3, 4, 5, 6] rfl)
set_option maxHeartbeats 4000000 in
set_option maxRecDepth 100000 in
theorem lq_k_function {p : Program} {l : Launch} {e : Env} {s : State} {m : MethodId} {below : List Frame} {meth : Method} {c : Code} {H : Heap} {locs : List Loc} {cells slots : Nat} {Q : State → Prop} {ls : Array Slot} {D : va_G} {A : Nat → Prop} {cI cL cZ : ClassId} {b L : Nat} {xs : Nat → Int32} {qo : Nat} {aC aM : Nat → Nat} {z : tw_S} {v : tm_SC} {t n : Nat} (C : lq_X l p m c s b meth D A cI cL cZ L xs) (ht : 4 * t + 4 ≤ L) (hS : sm_S n z.1 v) (hc : cells + 1 ≤ 1075) (hs : slots + 6 ≤ 17767) (h : tm_H D A s (lq_w qo aC aM cI cL cZ z v) H locs) (hl : lv_has ls 7 [(0, .ref (b)), (1, .ref (aC 0)), (2, .ref (aM 0)), (3, .ref (qo)), (4, .int (nI (4 * t)))])
    (kk : ∀ (z' : tw_S) (v' : tm_SC) (H1 : Heap) (locs1 : List Loc) (ls1 : Array Slot), sm_J z'.1 v' → tm_H D A s (lq_w qo aC aM cI cL cZ z' v') H1 locs1 → lv_has ls1 7 [(0, .ref (b)), (1, .ref (aC 0)), (2, .ref (aM 0)), (3, .ref (qo)), (4, .int (nI (4 * t)))] → W p l e room_1 s m #[Value.ref b] below meth c H1 locs1 (cells + 1) (slots + 6) Q (F0 m 800 ls1 [])) : W p l e room_1 s m #[Value.ref b] below meth c H locs cells slots Q (F0 m 212 ls []) := by
  have X := C.1
  have hx := X.1.1
  have hb := X.1.2.1
  have hst := C.2.2.2.2.2.2.1
  refine lv_aload_n hx hb d_law_212 rfl (lv_at hl 1 rfl) ?_
  refine lv_aload_n hx hb d_law_213 rfl (lv_at hl 0 rfl) ?_
  refine lv_iload hx hb d_law_214 (lv_at hl 4 rfl) ?_
  refine lv_iconst (v := 1) hx hb d_law_216 (by decide) ?_
  refine lv_iadd hx hb d_law_217 ?_
  refine lq_ld C h (4 * t + 1) (by omega) (nI_add (4 * t) 1) d_law_218 ?_
  refine lv_aload_n hx hb d_law_219 rfl (lv_at hl 0 rfl) ?_
  refine lv_iload hx hb d_law_220 (lv_at hl 4 rfl) ?_
  refine lv_iconst (v := 2) hx hb d_law_222 (by decide) ?_
  refine lv_iadd hx hb d_law_223 ?_
  refine lq_ld C h (4 * t + 2) (by omega) (nI_add (4 * t) 2) d_law_224 ?_
  refine lv_aload_n hx hb d_law_225 rfl (lv_at hl 0 rfl) ?_
  refine lv_iload hx hb d_law_226 (lv_at hl 4 rfl) ?_
  refine lv_iconst (v := 3) hx hb d_law_228 (by decide) ?_
  refine lv_iadd hx hb d_law_229 ?_
  refine lq_ld C h (4 * t + 3) (by omega) (nI_add (4 * t) 3) d_law_230 ?_
  refine lv_aload_n hx hb d_law_231 rfl (lv_at hl 3 rfl) ?_
  refine lq_cW C h (c_LW_function l D cI cL cZ aC qo (xs (4 * t + 1)) (xs (4 * t + 2)) (xs (4 * t + 3)) z _ _ (c_TM_function l D cI cL cZ aC hst n (xs (4 * t + 1)) (xs (4 * t + 2)) (xs (4 * t + 3)) z.1 hS.1.2.1 hS.1.1) (fun E v9 q => q.elim (fun w => Or.inl w.1) (fun w => Or.inr w.1))) wk_function kw_285 rfl rfl ⟨by decide, by decide⟩ rfl hl.1 rfl (Nat.le_of_ble_eq_true rfl) d_law_232 hc hs (fun k z1 H locs hp h => ?_)
  refine lv_istore hx hb d_law_235 hl (by decide) rfl (fun ls (hl : lv_has ls 7 [(5, .int (k)), (0, .ref (b)), (1, .ref (aC 0)), (2, .ref (aM 0)), (3, .ref (qo)), (4, .int (nI (4 * t)))]) => ?_)
  refine lv_aload_n hx hb d_law_237 rfl (lv_at hl 3 rfl) ?_
  refine lv_aload_n hx hb d_law_238 rfl (lv_at hl 1 rfl) ?_
  refine lv_iload hx hb d_law_239 (lv_at hl 5 rfl) ?_
  refine lv_iconst (v := 1) hx hb d_law_241 (by decide) ?_
  refine lv_iadd hx hb d_law_242 ?_
  refine lq_ld C h (4 * t + 1) (by omega) (nI_add (4 * t) 1) d_law_243 ?_
  refine lv_aload_n hx hb d_law_244 rfl (lv_at hl 1 rfl) ?_
  refine lv_iload hx hb d_law_245 (lv_at hl 5 rfl) ?_
  refine lv_iconst (v := 2) hx hb d_law_247 (by decide) ?_
  refine lv_iadd hx hb d_law_248 ?_
  refine lq_ld C h (4 * t + 2) (by omega) (nI_add (4 * t) 2) d_law_249 ?_
  refine lv_aload_n hx hb d_law_250 rfl (lv_at hl 1 rfl) ?_
  refine lv_iload hx hb d_law_251 (lv_at hl 5 rfl) ?_
  refine lv_iconst (v := 3) hx hb d_law_253 (by decide) ?_
  refine lv_iadd hx hb d_law_254 ?_
  refine lq_ld C h (4 * t + 3) (by omega) (nI_add (4 * t) 3) d_law_255 ?_
  refine lq_cM C h (c_MD_function l D cI cZ aM n (xs (4 * t + 1)) (xs (4 * t + 2)) (xs (4 * t + 3)) v hS.1.2.2.1 hS.1.1) ki_MD_function kw_685 rfl rfl rfl ⟨by decide, by decide⟩ rfl hl.1 rfl (Nat.le_of_ble_eq_true rfl) d_law_256 hc hs (fun r2 v1 H locs hp2 h => ?_)
  obtain ⟨g1, g2, g3⟩ := sm_function hS (xs (4 * t + 1)) (xs (4 * t + 2)) (xs (4 * t + 3))
  have hf : v1.1 13 = k ∧ (k = 0 → z1.2 0 = r2.toInt64) ∧ sm_J z1.1 v1 := by
    obtain ⟨e1, e2⟩ := hp2
    rw [← e1, ← e2] at g1
    rw [← e2] at g2 g3
    rcases hp with ⟨e0, r, ⟨⟨q1, q2⟩, q3, q4⟩, e5⟩ | ⟨E, (⟨q1, q2, q3⟩ | ⟨q1, q2, q3, q4⟩), e4, e5⟩
    · exact lq_f1 e0 e5 q2 q1 (g1 q3 q4)
    · exact lq_f2 e4 q1 q2 rfl (by decide) (g2 q3)
    · exact lq_f2 e4 q1 q2 rfl (by decide) (g3 q3 q4)
  refine lv_istore hx hb d_law_259 hl (by decide) rfl (fun ls (hl : lv_has ls 7 [(6, .int (r2)), (5, .int (k)), (0, .ref (b)), (1, .ref (aC 0)), (2, .ref (aM 0)), (3, .ref (qo)), (4, .int (nI (4 * t)))]) => ?_)
  refine lv_aload_n hx hb d_law_261 rfl (lv_at hl 4 rfl) ?_
  refine lq_cM C h (c_MD_thrown l D cI cZ aM v1) ki_MD_thrown kw_666 rfl rfl rfl ⟨by decide, by decide⟩ rfl hl.1 rfl (Nat.le_of_ble_eq_true rfl) d_law_262 hc hs (fun r3 v2 H locs hp3 h => ?_)
  obtain ⟨e31, e32⟩ := hp3
  rw [e32] at h
  refine lv_iload hx hb d_law_265 (lv_at hl 1 rfl) ?_
  refine lv_icmp_eq hx hb d_law_267 (tgt := 272) rfl (fun _ => ?_) (fun q => absurd (e31.trans hf.1) q)
  refine lv_iload hx hb d_law_272 (lv_at hl 1 rfl) ?_
  refine lv_if_ne hx hb d_law_274 (tgt := 289) rfl (fun h274t => ?_) (fun h274f => ?_)
  · refine lv_goto hx hb d_law_289 (tgt := 800) rfl ?_
    exact kk _ _ _ _ _ hf.2.2 h (lv_sub hl [2, 3, 4, 5, 6] rfl)
  · refine lv_aload_n hx hb d_law_277 rfl (lv_at hl 5 rfl) ?_
    refine lv_iconst (v := 0) hx hb d_law_278 (by decide) ?_
    refine tm_lald X h 0 1 rfl rfl 0 (by decide) rfl (by decide) d_law_279 ?_
    refine lv_iload hx hb d_law_280 (lv_at hl 0 rfl) ?_
    refine lv_i2l hx hb d_law_282 rfl ?_
    refine W.lcmp hx hb d_law_283 ?_
    refine lv_if_eq hx hb d_law_284 (tgt := 289) rfl (fun _ => ?_) (fun q => absurd ((lg_cmp_eq _ _).mpr (hf.2.1 h274f)) q)
    refine lv_goto hx hb d_law_289 (tgt := 800) rfl ?_
    exact kk _ _ _ _ _ hf.2.2 h (lv_sub hl [2, 3, 4, 5, 6] rfl)
set_option maxHeartbeats 4000000 in
set_option maxRecDepth 100000 in
theorem lq_k_call {p : Program} {l : Launch} {e : Env} {s : State} {m : MethodId} {below : List Frame} {meth : Method} {c : Code} {H : Heap} {locs : List Loc} {cells slots : Nat} {Q : State → Prop} {ls : Array Slot} {D : va_G} {A : Nat → Prop} {cI cL cZ : ClassId} {b L : Nat} {xs : Nat → Int32} {qo : Nat} {aC aM : Nat → Nat} {z : tw_S} {v : tm_SC} {t n : Nat} (C : lq_X l p m c s b meth D A cI cL cZ L xs) (ht : 4 * t + 4 ≤ L) (hS : sm_S n z.1 v) (hc : cells + 1 ≤ 1075) (hs : slots + 6 ≤ 17767) (h : tm_H D A s (lq_w qo aC aM cI cL cZ z v) H locs) (hl : lv_has ls 7 [(0, .ref (b)), (1, .ref (aC 0)), (2, .ref (aM 0)), (3, .ref (qo)), (4, .int (nI (4 * t)))])
    (kk : ∀ (z' : tw_S) (v' : tm_SC) (H1 : Heap) (locs1 : List Loc) (ls1 : Array Slot), sm_J z'.1 v' → tm_H D A s (lq_w qo aC aM cI cL cZ z' v') H1 locs1 → lv_has ls1 7 [(0, .ref (b)), (1, .ref (aC 0)), (2, .ref (aM 0)), (3, .ref (qo)), (4, .int (nI (4 * t)))] → W p l e room_1 s m #[Value.ref b] below meth c H1 locs1 (cells + 1) (slots + 6) Q (F0 m 800 ls1 [])) : W p l e room_1 s m #[Value.ref b] below meth c H locs cells slots Q (F0 m 292 ls []) := by
  have X := C.1
  have hx := X.1.1
  have hb := X.1.2.1
  have hst := C.2.2.2.2.2.2.1
  refine lv_aload_n hx hb d_law_292 rfl (lv_at hl 1 rfl) ?_
  refine lv_aload_n hx hb d_law_293 rfl (lv_at hl 0 rfl) ?_
  refine lv_iload hx hb d_law_294 (lv_at hl 4 rfl) ?_
  refine lv_iconst (v := 1) hx hb d_law_296 (by decide) ?_
  refine lv_iadd hx hb d_law_297 ?_
  refine lq_ld C h (4 * t + 1) (by omega) (nI_add (4 * t) 1) d_law_298 ?_
  refine lv_aload_n hx hb d_law_299 rfl (lv_at hl 0 rfl) ?_
  refine lv_iload hx hb d_law_300 (lv_at hl 4 rfl) ?_
  refine lv_iconst (v := 2) hx hb d_law_302 (by decide) ?_
  refine lv_iadd hx hb d_law_303 ?_
  refine lq_ld C h (4 * t + 2) (by omega) (nI_add (4 * t) 2) d_law_304 ?_
  refine lv_aload_n hx hb d_law_305 rfl (lv_at hl 3 rfl) ?_
  refine lq_cW C h (c_LW_call l D cI cL cZ aC qo (xs (4 * t + 1)) (xs (4 * t + 2)) z _ _ (c_TM_call l D cI cL cZ aC hst n (xs (4 * t + 1)) (xs (4 * t + 2)) z.1 hS.1.2.1 hS.1.1) (fun E v9 q => q.elim (fun w => Or.inl w.1) (fun w => Or.inr w.1))) wk_call kw_302 rfl rfl ⟨by decide, by decide⟩ rfl hl.1 rfl (Nat.le_of_ble_eq_true rfl) d_law_306 hc hs (fun k z1 H locs hp h => ?_)
  refine lv_istore hx hb d_law_309 hl (by decide) rfl (fun ls (hl : lv_has ls 7 [(5, .int (k)), (0, .ref (b)), (1, .ref (aC 0)), (2, .ref (aM 0)), (3, .ref (qo)), (4, .int (nI (4 * t)))]) => ?_)
  refine lv_aload_n hx hb d_law_311 rfl (lv_at hl 3 rfl) ?_
  refine lv_aload_n hx hb d_law_312 rfl (lv_at hl 1 rfl) ?_
  refine lv_iload hx hb d_law_313 (lv_at hl 5 rfl) ?_
  refine lv_iconst (v := 1) hx hb d_law_315 (by decide) ?_
  refine lv_iadd hx hb d_law_316 ?_
  refine lq_ld C h (4 * t + 1) (by omega) (nI_add (4 * t) 1) d_law_317 ?_
  refine lv_aload_n hx hb d_law_318 rfl (lv_at hl 1 rfl) ?_
  refine lv_iload hx hb d_law_319 (lv_at hl 5 rfl) ?_
  refine lv_iconst (v := 2) hx hb d_law_321 (by decide) ?_
  refine lv_iadd hx hb d_law_322 ?_
  refine lq_ld C h (4 * t + 2) (by omega) (nI_add (4 * t) 2) d_law_323 ?_
  refine lq_cM C h (c_MD_call l D cI cZ aM n (xs (4 * t + 1)) (xs (4 * t + 2)) v hS.1.2.2.1 hS.1.1) ki_MD_call kw_701 rfl rfl rfl ⟨by decide, by decide⟩ rfl hl.1 rfl (Nat.le_of_ble_eq_true rfl) d_law_324 hc hs (fun r2 v1 H locs hp2 h => ?_)
  obtain ⟨g1, g2, g3⟩ := sm_call hS (xs (4 * t + 1)) (xs (4 * t + 2))
  have hf : v1.1 13 = k ∧ (k = 0 → z1.2 0 = r2.toInt64) ∧ sm_J z1.1 v1 := by
    obtain ⟨e1, e2⟩ := hp2
    rw [← e1, ← e2] at g1
    rw [← e2] at g2 g3
    rcases hp with ⟨e0, r, ⟨⟨q1, q2⟩, q3, q4⟩, e5⟩ | ⟨E, (⟨q1, q2, q3⟩ | ⟨q1, q2, q3, q4⟩), e4, e5⟩
    · exact lq_f1 e0 e5 q2 q1 (g1 q3 q4)
    · exact lq_f2 e4 q1 q2 rfl (by decide) (g2 q3)
    · exact lq_f2 e4 q1 q2 rfl (by decide) (g3 q3 q4)
  refine lv_istore hx hb d_law_327 hl (by decide) rfl (fun ls (hl : lv_has ls 7 [(6, .int (r2)), (5, .int (k)), (0, .ref (b)), (1, .ref (aC 0)), (2, .ref (aM 0)), (3, .ref (qo)), (4, .int (nI (4 * t)))]) => ?_)
  refine lv_aload_n hx hb d_law_329 rfl (lv_at hl 4 rfl) ?_
  refine lq_cM C h (c_MD_thrown l D cI cZ aM v1) ki_MD_thrown kw_666 rfl rfl rfl ⟨by decide, by decide⟩ rfl hl.1 rfl (Nat.le_of_ble_eq_true rfl) d_law_330 hc hs (fun r3 v2 H locs hp3 h => ?_)
  obtain ⟨e31, e32⟩ := hp3
  rw [e32] at h
  refine lv_iload hx hb d_law_333 (lv_at hl 1 rfl) ?_
  refine lv_icmp_eq hx hb d_law_335 (tgt := 340) rfl (fun _ => ?_) (fun q => absurd (e31.trans hf.1) q)
  refine lv_iload hx hb d_law_340 (lv_at hl 1 rfl) ?_
  refine lv_if_ne hx hb d_law_342 (tgt := 357) rfl (fun h342t => ?_) (fun h342f => ?_)
  · refine lv_goto hx hb d_law_357 (tgt := 800) rfl ?_
    exact kk _ _ _ _ _ hf.2.2 h (lv_sub hl [2, 3, 4, 5, 6] rfl)
  · refine lv_aload_n hx hb d_law_345 rfl (lv_at hl 5 rfl) ?_
    refine lv_iconst (v := 0) hx hb d_law_346 (by decide) ?_
    refine tm_lald X h 0 1 rfl rfl 0 (by decide) rfl (by decide) d_law_347 ?_
    refine lv_iload hx hb d_law_348 (lv_at hl 0 rfl) ?_
    refine lv_i2l hx hb d_law_350 rfl ?_
    refine W.lcmp hx hb d_law_351 ?_
    refine lv_if_eq hx hb d_law_352 (tgt := 357) rfl (fun _ => ?_) (fun q => absurd ((lg_cmp_eq _ _).mpr (hf.2.1 h342f)) q)
    refine lv_goto hx hb d_law_357 (tgt := 800) rfl ?_
    exact kk _ _ _ _ _ hf.2.2 h (lv_sub hl [2, 3, 4, 5, 6] rfl)
set_option maxHeartbeats 4000000 in
set_option maxRecDepth 100000 in
theorem lq_k_operation {p : Program} {l : Launch} {e : Env} {s : State} {m : MethodId} {below : List Frame} {meth : Method} {c : Code} {H : Heap} {locs : List Loc} {cells slots : Nat} {Q : State → Prop} {ls : Array Slot} {D : va_G} {A : Nat → Prop} {cI cL cZ : ClassId} {b L : Nat} {xs : Nat → Int32} {qo : Nat} {aC aM : Nat → Nat} {z : tw_S} {v : tm_SC} {t n : Nat} (C : lq_X l p m c s b meth D A cI cL cZ L xs) (ht : 4 * t + 4 ≤ L) (hS : sm_S n z.1 v) (hc : cells + 1 ≤ 1075) (hs : slots + 6 ≤ 17767) (h : tm_H D A s (lq_w qo aC aM cI cL cZ z v) H locs) (hl : lv_has ls 7 [(0, .ref (b)), (1, .ref (aC 0)), (2, .ref (aM 0)), (3, .ref (qo)), (4, .int (nI (4 * t)))])
    (kk : ∀ (z' : tw_S) (v' : tm_SC) (H1 : Heap) (locs1 : List Loc) (ls1 : Array Slot), sm_J z'.1 v' → tm_H D A s (lq_w qo aC aM cI cL cZ z' v') H1 locs1 → lv_has ls1 7 [(0, .ref (b)), (1, .ref (aC 0)), (2, .ref (aM 0)), (3, .ref (qo)), (4, .int (nI (4 * t)))] → W p l e room_1 s m #[Value.ref b] below meth c H1 locs1 (cells + 1) (slots + 6) Q (F0 m 800 ls1 [])) : W p l e room_1 s m #[Value.ref b] below meth c H locs cells slots Q (F0 m 360 ls []) := by
  have X := C.1
  have hx := X.1.1
  have hb := X.1.2.1
  have hst := C.2.2.2.2.2.2.1
  refine lv_aload_n hx hb d_law_360 rfl (lv_at hl 1 rfl) ?_
  refine lv_aload_n hx hb d_law_361 rfl (lv_at hl 0 rfl) ?_
  refine lv_iload hx hb d_law_362 (lv_at hl 4 rfl) ?_
  refine lv_iconst (v := 1) hx hb d_law_364 (by decide) ?_
  refine lv_iadd hx hb d_law_365 ?_
  refine lq_ld C h (4 * t + 1) (by omega) (nI_add (4 * t) 1) d_law_366 ?_
  refine lv_aload_n hx hb d_law_367 rfl (lv_at hl 0 rfl) ?_
  refine lv_iload hx hb d_law_368 (lv_at hl 4 rfl) ?_
  refine lv_iconst (v := 2) hx hb d_law_370 (by decide) ?_
  refine lv_iadd hx hb d_law_371 ?_
  refine lq_ld C h (4 * t + 2) (by omega) (nI_add (4 * t) 2) d_law_372 ?_
  refine lv_aload_n hx hb d_law_373 rfl (lv_at hl 0 rfl) ?_
  refine lv_iload hx hb d_law_374 (lv_at hl 4 rfl) ?_
  refine lv_iconst (v := 3) hx hb d_law_376 (by decide) ?_
  refine lv_iadd hx hb d_law_377 ?_
  refine lq_ld C h (4 * t + 3) (by omega) (nI_add (4 * t) 3) d_law_378 ?_
  refine lv_aload_n hx hb d_law_379 rfl (lv_at hl 3 rfl) ?_
  refine lq_cW C h (c_LW_operation l D cI cL cZ aC qo (xs (4 * t + 1)) (xs (4 * t + 2)) (xs (4 * t + 3)) z _ _ (c_TM_operation l D cI cL cZ aC hst n (xs (4 * t + 1)) (xs (4 * t + 2)) (xs (4 * t + 3)) z.1 hS.1.2.1 hS.1.1) (fun E v9 q => q.elim (fun w => Or.inl w.1) (fun w => Or.inr w.1))) wk_operation kw_312 rfl rfl ⟨by decide, by decide⟩ rfl hl.1 rfl (Nat.le_of_ble_eq_true rfl) d_law_380 hc hs (fun k z1 H locs hp h => ?_)
  refine lv_istore hx hb d_law_383 hl (by decide) rfl (fun ls (hl : lv_has ls 7 [(5, .int (k)), (0, .ref (b)), (1, .ref (aC 0)), (2, .ref (aM 0)), (3, .ref (qo)), (4, .int (nI (4 * t)))]) => ?_)
  refine lv_aload_n hx hb d_law_385 rfl (lv_at hl 3 rfl) ?_
  refine lv_aload_n hx hb d_law_386 rfl (lv_at hl 1 rfl) ?_
  refine lv_iload hx hb d_law_387 (lv_at hl 5 rfl) ?_
  refine lv_iconst (v := 1) hx hb d_law_389 (by decide) ?_
  refine lv_iadd hx hb d_law_390 ?_
  refine lq_ld C h (4 * t + 1) (by omega) (nI_add (4 * t) 1) d_law_391 ?_
  refine lv_aload_n hx hb d_law_392 rfl (lv_at hl 1 rfl) ?_
  refine lv_iload hx hb d_law_393 (lv_at hl 5 rfl) ?_
  refine lv_iconst (v := 2) hx hb d_law_395 (by decide) ?_
  refine lv_iadd hx hb d_law_396 ?_
  refine lq_ld C h (4 * t + 2) (by omega) (nI_add (4 * t) 2) d_law_397 ?_
  refine lv_aload_n hx hb d_law_398 rfl (lv_at hl 1 rfl) ?_
  refine lv_iload hx hb d_law_399 (lv_at hl 5 rfl) ?_
  refine lv_iconst (v := 3) hx hb d_law_401 (by decide) ?_
  refine lv_iadd hx hb d_law_402 ?_
  refine lq_ld C h (4 * t + 3) (by omega) (nI_add (4 * t) 3) d_law_403 ?_
  refine lq_cM C h (c_MD_operation l D cI cZ aM n (xs (4 * t + 1)) (xs (4 * t + 2)) (xs (4 * t + 3)) v hS.1.2.2.1 hS.1.1) ki_MD_operation kw_708 rfl rfl rfl ⟨by decide, by decide⟩ rfl hl.1 rfl (Nat.le_of_ble_eq_true rfl) d_law_404 hc hs (fun r2 v1 H locs hp2 h => ?_)
  obtain ⟨g1, g2, g3⟩ := sm_operation hS (xs (4 * t + 1)) (xs (4 * t + 2)) (xs (4 * t + 3))
  have hf : v1.1 13 = k ∧ (k = 0 → z1.2 0 = r2.toInt64) ∧ sm_J z1.1 v1 := by
    obtain ⟨e1, e2⟩ := hp2
    rw [← e1, ← e2] at g1
    rw [← e2] at g2 g3
    rcases hp with ⟨e0, r, ⟨⟨q1, q2⟩, q3, q4⟩, e5⟩ | ⟨E, (⟨q1, q2, q3⟩ | ⟨q1, q2, q3, q4⟩), e4, e5⟩
    · exact lq_f1 e0 e5 q2 q1 (g1 q3 q4)
    · exact lq_f2 e4 q1 q2 rfl (by decide) (g2 q3)
    · exact lq_f2 e4 q1 q2 rfl (by decide) (g3 q3 q4)
  refine lv_istore hx hb d_law_407 hl (by decide) rfl (fun ls (hl : lv_has ls 7 [(6, .int (r2)), (5, .int (k)), (0, .ref (b)), (1, .ref (aC 0)), (2, .ref (aM 0)), (3, .ref (qo)), (4, .int (nI (4 * t)))]) => ?_)
  refine lv_aload_n hx hb d_law_409 rfl (lv_at hl 4 rfl) ?_
  refine lq_cM C h (c_MD_thrown l D cI cZ aM v1) ki_MD_thrown kw_666 rfl rfl rfl ⟨by decide, by decide⟩ rfl hl.1 rfl (Nat.le_of_ble_eq_true rfl) d_law_410 hc hs (fun r3 v2 H locs hp3 h => ?_)
  obtain ⟨e31, e32⟩ := hp3
  rw [e32] at h
  refine lv_iload hx hb d_law_413 (lv_at hl 1 rfl) ?_
  refine lv_icmp_eq hx hb d_law_415 (tgt := 420) rfl (fun _ => ?_) (fun q => absurd (e31.trans hf.1) q)
  refine lv_iload hx hb d_law_420 (lv_at hl 1 rfl) ?_
  refine lv_if_ne hx hb d_law_422 (tgt := 437) rfl (fun h422t => ?_) (fun h422f => ?_)
  · refine lv_goto hx hb d_law_437 (tgt := 800) rfl ?_
    exact kk _ _ _ _ _ hf.2.2 h (lv_sub hl [2, 3, 4, 5, 6] rfl)
  · refine lv_aload_n hx hb d_law_425 rfl (lv_at hl 5 rfl) ?_
    refine lv_iconst (v := 0) hx hb d_law_426 (by decide) ?_
    refine tm_lald X h 0 1 rfl rfl 0 (by decide) rfl (by decide) d_law_427 ?_
    refine lv_iload hx hb d_law_428 (lv_at hl 0 rfl) ?_
    refine lv_i2l hx hb d_law_430 rfl ?_
    refine W.lcmp hx hb d_law_431 ?_
    refine lv_if_eq hx hb d_law_432 (tgt := 437) rfl (fun _ => ?_) (fun q => absurd ((lg_cmp_eq _ _).mpr (hf.2.1 h422f)) q)
    refine lv_goto hx hb d_law_437 (tgt := 800) rfl ?_
    exact kk _ _ _ _ _ hf.2.2 h (lv_sub hl [2, 3, 4, 5, 6] rfl)
set_option maxHeartbeats 4000000 in
set_option maxRecDepth 100000 in
theorem lq_k_choice {p : Program} {l : Launch} {e : Env} {s : State} {m : MethodId} {below : List Frame} {meth : Method} {c : Code} {H : Heap} {locs : List Loc} {cells slots : Nat} {Q : State → Prop} {ls : Array Slot} {D : va_G} {A : Nat → Prop} {cI cL cZ : ClassId} {b L : Nat} {xs : Nat → Int32} {qo : Nat} {aC aM : Nat → Nat} {z : tw_S} {v : tm_SC} {t n : Nat} (C : lq_X l p m c s b meth D A cI cL cZ L xs) (ht : 4 * t + 4 ≤ L) (hS : sm_S n z.1 v) (hc : cells + 1 ≤ 1075) (hs : slots + 6 ≤ 17767) (h : tm_H D A s (lq_w qo aC aM cI cL cZ z v) H locs) (hl : lv_has ls 7 [(0, .ref (b)), (1, .ref (aC 0)), (2, .ref (aM 0)), (3, .ref (qo)), (4, .int (nI (4 * t)))])
    (kk : ∀ (z' : tw_S) (v' : tm_SC) (H1 : Heap) (locs1 : List Loc) (ls1 : Array Slot), sm_J z'.1 v' → tm_H D A s (lq_w qo aC aM cI cL cZ z' v') H1 locs1 → lv_has ls1 7 [(0, .ref (b)), (1, .ref (aC 0)), (2, .ref (aM 0)), (3, .ref (qo)), (4, .int (nI (4 * t)))] → W p l e room_1 s m #[Value.ref b] below meth c H1 locs1 (cells + 1) (slots + 6) Q (F0 m 800 ls1 [])) : W p l e room_1 s m #[Value.ref b] below meth c H locs cells slots Q (F0 m 440 ls []) := by
  have X := C.1
  have hx := X.1.1
  have hb := X.1.2.1
  have hst := C.2.2.2.2.2.2.1
  refine lv_aload_n hx hb d_law_440 rfl (lv_at hl 1 rfl) ?_
  refine lv_aload_n hx hb d_law_441 rfl (lv_at hl 0 rfl) ?_
  refine lv_iload hx hb d_law_442 (lv_at hl 4 rfl) ?_
  refine lv_iconst (v := 1) hx hb d_law_444 (by decide) ?_
  refine lv_iadd hx hb d_law_445 ?_
  refine lq_ld C h (4 * t + 1) (by omega) (nI_add (4 * t) 1) d_law_446 ?_
  refine lv_aload_n hx hb d_law_447 rfl (lv_at hl 0 rfl) ?_
  refine lv_iload hx hb d_law_448 (lv_at hl 4 rfl) ?_
  refine lv_iconst (v := 2) hx hb d_law_450 (by decide) ?_
  refine lv_iadd hx hb d_law_451 ?_
  refine lq_ld C h (4 * t + 2) (by omega) (nI_add (4 * t) 2) d_law_452 ?_
  refine lv_aload_n hx hb d_law_453 rfl (lv_at hl 0 rfl) ?_
  refine lv_iload hx hb d_law_454 (lv_at hl 4 rfl) ?_
  refine lv_iconst (v := 3) hx hb d_law_456 (by decide) ?_
  refine lv_iadd hx hb d_law_457 ?_
  refine lq_ld C h (4 * t + 3) (by omega) (nI_add (4 * t) 3) d_law_458 ?_
  refine lv_aload_n hx hb d_law_459 rfl (lv_at hl 3 rfl) ?_
  refine lq_cW C h (c_LW_choice l D cI cL cZ aC qo (xs (4 * t + 1)) (xs (4 * t + 2)) (xs (4 * t + 3)) z _ _ (c_TM_choice l D cI cL cZ aC hst n (xs (4 * t + 1)) (xs (4 * t + 2)) (xs (4 * t + 3)) z.1 hS.1.2.1 hS.1.1) (fun E v9 q => q.elim (fun w => Or.inl w.1) (fun w => Or.inr w.1))) wk_choice kw_320 rfl rfl ⟨by decide, by decide⟩ rfl hl.1 rfl (Nat.le_of_ble_eq_true rfl) d_law_460 hc hs (fun k z1 H locs hp h => ?_)
  refine lv_istore hx hb d_law_463 hl (by decide) rfl (fun ls (hl : lv_has ls 7 [(5, .int (k)), (0, .ref (b)), (1, .ref (aC 0)), (2, .ref (aM 0)), (3, .ref (qo)), (4, .int (nI (4 * t)))]) => ?_)
  refine lv_aload_n hx hb d_law_465 rfl (lv_at hl 3 rfl) ?_
  refine lv_aload_n hx hb d_law_466 rfl (lv_at hl 1 rfl) ?_
  refine lv_iload hx hb d_law_467 (lv_at hl 5 rfl) ?_
  refine lv_iconst (v := 1) hx hb d_law_469 (by decide) ?_
  refine lv_iadd hx hb d_law_470 ?_
  refine lq_ld C h (4 * t + 1) (by omega) (nI_add (4 * t) 1) d_law_471 ?_
  refine lv_aload_n hx hb d_law_472 rfl (lv_at hl 1 rfl) ?_
  refine lv_iload hx hb d_law_473 (lv_at hl 5 rfl) ?_
  refine lv_iconst (v := 2) hx hb d_law_475 (by decide) ?_
  refine lv_iadd hx hb d_law_476 ?_
  refine lq_ld C h (4 * t + 2) (by omega) (nI_add (4 * t) 2) d_law_477 ?_
  refine lv_aload_n hx hb d_law_478 rfl (lv_at hl 1 rfl) ?_
  refine lv_iload hx hb d_law_479 (lv_at hl 5 rfl) ?_
  refine lv_iconst (v := 3) hx hb d_law_481 (by decide) ?_
  refine lv_iadd hx hb d_law_482 ?_
  refine lq_ld C h (4 * t + 3) (by omega) (nI_add (4 * t) 3) d_law_483 ?_
  refine lq_cM C h (c_MD_choice l D cI cZ aM n (xs (4 * t + 1)) (xs (4 * t + 2)) (xs (4 * t + 3)) v hS.1.2.2.1 hS.1.1) ki_MD_choice kw_712 rfl rfl rfl ⟨by decide, by decide⟩ rfl hl.1 rfl (Nat.le_of_ble_eq_true rfl) d_law_484 hc hs (fun r2 v1 H locs hp2 h => ?_)
  obtain ⟨g1, g2, g3⟩ := sm_choice hS (xs (4 * t + 1)) (xs (4 * t + 2)) (xs (4 * t + 3))
  have hf : v1.1 13 = k ∧ (k = 0 → z1.2 0 = r2.toInt64) ∧ sm_J z1.1 v1 := by
    obtain ⟨e1, e2⟩ := hp2
    rw [← e1, ← e2] at g1
    rw [← e2] at g2 g3
    rcases hp with ⟨e0, r, ⟨⟨q1, q2⟩, q3, q4⟩, e5⟩ | ⟨E, (⟨q1, q2, q3⟩ | ⟨q1, q2, q3, q4⟩), e4, e5⟩
    · exact lq_f1 e0 e5 q2 q1 (g1 q3 q4)
    · exact lq_f2 e4 q1 q2 rfl (by decide) (g2 q3)
    · exact lq_f2 e4 q1 q2 rfl (by decide) (g3 q3 q4)
  refine lv_istore hx hb d_law_487 hl (by decide) rfl (fun ls (hl : lv_has ls 7 [(6, .int (r2)), (5, .int (k)), (0, .ref (b)), (1, .ref (aC 0)), (2, .ref (aM 0)), (3, .ref (qo)), (4, .int (nI (4 * t)))]) => ?_)
  refine lv_aload_n hx hb d_law_489 rfl (lv_at hl 4 rfl) ?_
  refine lq_cM C h (c_MD_thrown l D cI cZ aM v1) ki_MD_thrown kw_666 rfl rfl rfl ⟨by decide, by decide⟩ rfl hl.1 rfl (Nat.le_of_ble_eq_true rfl) d_law_490 hc hs (fun r3 v2 H locs hp3 h => ?_)
  obtain ⟨e31, e32⟩ := hp3
  rw [e32] at h
  refine lv_iload hx hb d_law_493 (lv_at hl 1 rfl) ?_
  refine lv_icmp_eq hx hb d_law_495 (tgt := 500) rfl (fun _ => ?_) (fun q => absurd (e31.trans hf.1) q)
  refine lv_iload hx hb d_law_500 (lv_at hl 1 rfl) ?_
  refine lv_if_ne hx hb d_law_502 (tgt := 517) rfl (fun h502t => ?_) (fun h502f => ?_)
  · refine lv_goto hx hb d_law_517 (tgt := 800) rfl ?_
    exact kk _ _ _ _ _ hf.2.2 h (lv_sub hl [2, 3, 4, 5, 6] rfl)
  · refine lv_aload_n hx hb d_law_505 rfl (lv_at hl 5 rfl) ?_
    refine lv_iconst (v := 0) hx hb d_law_506 (by decide) ?_
    refine tm_lald X h 0 1 rfl rfl 0 (by decide) rfl (by decide) d_law_507 ?_
    refine lv_iload hx hb d_law_508 (lv_at hl 0 rfl) ?_
    refine lv_i2l hx hb d_law_510 rfl ?_
    refine W.lcmp hx hb d_law_511 ?_
    refine lv_if_eq hx hb d_law_512 (tgt := 517) rfl (fun _ => ?_) (fun q => absurd ((lg_cmp_eq _ _).mpr (hf.2.1 h502f)) q)
    refine lv_goto hx hb d_law_517 (tgt := 800) rfl ?_
    exact kk _ _ _ _ _ hf.2.2 h (lv_sub hl [2, 3, 4, 5, 6] rfl)
set_option maxHeartbeats 4000000 in
set_option maxRecDepth 100000 in
theorem lq_k_free {p : Program} {l : Launch} {e : Env} {s : State} {m : MethodId} {below : List Frame} {meth : Method} {c : Code} {H : Heap} {locs : List Loc} {cells slots : Nat} {Q : State → Prop} {ls : Array Slot} {D : va_G} {A : Nat → Prop} {cI cL cZ : ClassId} {b L : Nat} {xs : Nat → Int32} {qo : Nat} {aC aM : Nat → Nat} {z : tw_S} {v : tm_SC} {t n : Nat} (C : lq_X l p m c s b meth D A cI cL cZ L xs) (ht : 4 * t + 4 ≤ L) (hS : sm_S n z.1 v) (hc : cells + 1 ≤ 1075) (hs : slots + 6 ≤ 17767) (h : tm_H D A s (lq_w qo aC aM cI cL cZ z v) H locs) (hl : lv_has ls 7 [(0, .ref (b)), (1, .ref (aC 0)), (2, .ref (aM 0)), (3, .ref (qo)), (4, .int (nI (4 * t)))])
    (kk : ∀ (z' : tw_S) (v' : tm_SC) (H1 : Heap) (locs1 : List Loc) (ls1 : Array Slot), sm_J z'.1 v' → tm_H D A s (lq_w qo aC aM cI cL cZ z' v') H1 locs1 → lv_has ls1 7 [(0, .ref (b)), (1, .ref (aC 0)), (2, .ref (aM 0)), (3, .ref (qo)), (4, .int (nI (4 * t)))] → W p l e room_1 s m #[Value.ref b] below meth c H1 locs1 (cells + 1) (slots + 6) Q (F0 m 800 ls1 [])) : W p l e room_1 s m #[Value.ref b] below meth c H locs cells slots Q (F0 m 520 ls []) := by
  have X := C.1
  have hx := X.1.1
  have hb := X.1.2.1
  have hst := C.2.2.2.2.2.2.1
  refine lv_aload_n hx hb d_law_520 rfl (lv_at hl 1 rfl) ?_
  refine lv_aload_n hx hb d_law_521 rfl (lv_at hl 0 rfl) ?_
  refine lv_iload hx hb d_law_522 (lv_at hl 4 rfl) ?_
  refine lv_iconst (v := 1) hx hb d_law_524 (by decide) ?_
  refine lv_iadd hx hb d_law_525 ?_
  refine lq_ld C h (4 * t + 1) (by omega) (nI_add (4 * t) 1) d_law_526 ?_
  refine lv_aload_n hx hb d_law_527 rfl (lv_at hl 3 rfl) ?_
  refine lq_cW C h (c_LW_free l D cI cL cZ aC qo (xs (4 * t + 1)) z _ _ (c_TM_free l D cI cL cZ aC hst n (xs (4 * t + 1)) z.1 hS.1.2.1 hS.1.1) (fun E v9 q => q.1)) wk_free kw_327 rfl rfl ⟨by decide, by decide⟩ rfl hl.1 rfl (Nat.le_of_ble_eq_true rfl) d_law_528 hc hs (fun k z1 H locs hp h => ?_)
  refine lv_istore hx hb d_law_531 hl (by decide) rfl (fun ls (hl : lv_has ls 7 [(5, .int (k)), (0, .ref (b)), (1, .ref (aC 0)), (2, .ref (aM 0)), (3, .ref (qo)), (4, .int (nI (4 * t)))]) => ?_)
  refine lv_aload_n hx hb d_law_533 rfl (lv_at hl 3 rfl) ?_
  refine lv_aload_n hx hb d_law_534 rfl (lv_at hl 1 rfl) ?_
  refine lv_iload hx hb d_law_535 (lv_at hl 5 rfl) ?_
  refine lv_iconst (v := 1) hx hb d_law_537 (by decide) ?_
  refine lv_iadd hx hb d_law_538 ?_
  refine lq_ld C h (4 * t + 1) (by omega) (nI_add (4 * t) 1) d_law_539 ?_
  refine lq_cM C h (c_MD_free l D cI cZ aM n (xs (4 * t + 1)) v hS.1.2.2.1 hS.1.1) ki_MD_free kw_716 rfl rfl rfl ⟨by decide, by decide⟩ rfl hl.1 rfl (Nat.le_of_ble_eq_true rfl) d_law_540 hc hs (fun r2 v1 H locs hp2 h => ?_)
  obtain ⟨g1, g2⟩ := sm_free hS (xs (4 * t + 1))
  have hf : v1.1 13 = k ∧ (k = 0 → z1.2 0 = r2.toInt64) ∧ sm_J z1.1 v1 := by
    obtain ⟨e1, e2⟩ := hp2
    rw [← e1, ← e2] at g1
    rw [← e2] at g2
    rcases hp with ⟨e0, r, ⟨⟨q1, q2⟩, q3⟩, e5⟩ | ⟨E, ⟨q1, q2, q3⟩, e4, e5⟩
    · exact lq_f1 e0 e5 q2 q1 (g1 q3)
    · exact lq_f2 e4 q1 q2 rfl (by decide) (g2 q3)
  refine lv_istore hx hb d_law_543 hl (by decide) rfl (fun ls (hl : lv_has ls 7 [(6, .int (r2)), (5, .int (k)), (0, .ref (b)), (1, .ref (aC 0)), (2, .ref (aM 0)), (3, .ref (qo)), (4, .int (nI (4 * t)))]) => ?_)
  refine lv_aload_n hx hb d_law_545 rfl (lv_at hl 4 rfl) ?_
  refine lq_cM C h (c_MD_thrown l D cI cZ aM v1) ki_MD_thrown kw_666 rfl rfl rfl ⟨by decide, by decide⟩ rfl hl.1 rfl (Nat.le_of_ble_eq_true rfl) d_law_546 hc hs (fun r3 v2 H locs hp3 h => ?_)
  obtain ⟨e31, e32⟩ := hp3
  rw [e32] at h
  refine lv_iload hx hb d_law_549 (lv_at hl 1 rfl) ?_
  refine lv_icmp_eq hx hb d_law_551 (tgt := 556) rfl (fun _ => ?_) (fun q => absurd (e31.trans hf.1) q)
  refine lv_iload hx hb d_law_556 (lv_at hl 1 rfl) ?_
  refine lv_if_ne hx hb d_law_558 (tgt := 573) rfl (fun h558t => ?_) (fun h558f => ?_)
  · refine lv_goto hx hb d_law_573 (tgt := 800) rfl ?_
    exact kk _ _ _ _ _ hf.2.2 h (lv_sub hl [2, 3, 4, 5, 6] rfl)
  · refine lv_aload_n hx hb d_law_561 rfl (lv_at hl 5 rfl) ?_
    refine lv_iconst (v := 0) hx hb d_law_562 (by decide) ?_
    refine tm_lald X h 0 1 rfl rfl 0 (by decide) rfl (by decide) d_law_563 ?_
    refine lv_iload hx hb d_law_564 (lv_at hl 0 rfl) ?_
    refine lv_i2l hx hb d_law_566 rfl ?_
    refine W.lcmp hx hb d_law_567 ?_
    refine lv_if_eq hx hb d_law_568 (tgt := 573) rfl (fun _ => ?_) (fun q => absurd ((lg_cmp_eq _ _).mpr (hf.2.1 h558f)) q)
    refine lv_goto hx hb d_law_573 (tgt := 800) rfl ?_
    exact kk _ _ _ _ _ hf.2.2 h (lv_sub hl [2, 3, 4, 5, 6] rfl)
set_option maxHeartbeats 4000000 in
set_option maxRecDepth 100000 in
theorem lq_k_begin {p : Program} {l : Launch} {e : Env} {s : State} {m : MethodId} {below : List Frame} {meth : Method} {c : Code} {H : Heap} {locs : List Loc} {cells slots : Nat} {Q : State → Prop} {ls : Array Slot} {D : va_G} {A : Nat → Prop} {cI cL cZ : ClassId} {b L : Nat} {xs : Nat → Int32} {qo : Nat} {aC aM : Nat → Nat} {z : tw_S} {v : tm_SC} {t n : Nat} (C : lq_X l p m c s b meth D A cI cL cZ L xs) (ht : 4 * t + 4 ≤ L) (hS : sm_S n z.1 v) (hc : cells + 1 ≤ 1075) (hs : slots + 6 ≤ 17767) (h : tm_H D A s (lq_w qo aC aM cI cL cZ z v) H locs) (hl : lv_has ls 7 [(0, .ref (b)), (1, .ref (aC 0)), (2, .ref (aM 0)), (3, .ref (qo)), (4, .int (nI (4 * t)))])
    (kk : ∀ (z' : tw_S) (v' : tm_SC) (H1 : Heap) (locs1 : List Loc) (ls1 : Array Slot), sm_J z'.1 v' → tm_H D A s (lq_w qo aC aM cI cL cZ z' v') H1 locs1 → lv_has ls1 7 [(0, .ref (b)), (1, .ref (aC 0)), (2, .ref (aM 0)), (3, .ref (qo)), (4, .int (nI (4 * t)))] → W p l e room_1 s m #[Value.ref b] below meth c H1 locs1 (cells + 1) (slots + 6) Q (F0 m 800 ls1 [])) : W p l e room_1 s m #[Value.ref b] below meth c H locs cells slots Q (F0 m 576 ls []) := by
  have X := C.1
  have hx := X.1.1
  have hb := X.1.2.1
  have hst := C.2.2.2.2.2.2.1
  refine lv_aload_n hx hb d_law_576 rfl (lv_at hl 1 rfl) ?_
  refine lv_aload_n hx hb d_law_577 rfl (lv_at hl 0 rfl) ?_
  refine lv_iload hx hb d_law_578 (lv_at hl 4 rfl) ?_
  refine lv_iconst (v := 1) hx hb d_law_580 (by decide) ?_
  refine lv_iadd hx hb d_law_581 ?_
  refine lq_ld C h (4 * t + 1) (by omega) (nI_add (4 * t) 1) d_law_582 ?_
  refine lv_aload_n hx hb d_law_583 rfl (lv_at hl 0 rfl) ?_
  refine lv_iload hx hb d_law_584 (lv_at hl 4 rfl) ?_
  refine lv_iconst (v := 2) hx hb d_law_586 (by decide) ?_
  refine lv_iadd hx hb d_law_587 ?_
  refine lq_ld C h (4 * t + 2) (by omega) (nI_add (4 * t) 2) d_law_588 ?_
  refine lq_cW C h (c_LW_begin l D cI cL cZ aC qo (xs (4 * t + 1)) (xs (4 * t + 2)) z _ _ (c_TM_begin l D cI cL cZ aC hst n (xs (4 * t + 1)) (xs (4 * t + 2)) (fun _ => True) z.1 hS.1.2.1 hS.1.1 hS.2.1.2.2.2.1) (fun E v9 q => q.1)) wk_begin kw_334 rfl rfl ⟨by decide, by decide⟩ rfl hl.1 rfl (Nat.le_of_ble_eq_true rfl) d_law_589 hc hs (fun k z1 H locs hp h => ?_)
  refine lv_istore hx hb d_law_592 hl (by decide) rfl (fun ls (hl : lv_has ls 7 [(5, .int (k)), (0, .ref (b)), (1, .ref (aC 0)), (2, .ref (aM 0)), (3, .ref (qo)), (4, .int (nI (4 * t)))]) => ?_)
  refine lv_aload_n hx hb d_law_594 rfl (lv_at hl 3 rfl) ?_
  refine lv_aload_n hx hb d_law_595 rfl (lv_at hl 1 rfl) ?_
  refine lv_iload hx hb d_law_596 (lv_at hl 5 rfl) ?_
  refine lv_iconst (v := 1) hx hb d_law_598 (by decide) ?_
  refine lv_iadd hx hb d_law_599 ?_
  refine lq_ld C h (4 * t + 1) (by omega) (nI_add (4 * t) 1) d_law_600 ?_
  refine lv_aload_n hx hb d_law_601 rfl (lv_at hl 1 rfl) ?_
  refine lv_iload hx hb d_law_602 (lv_at hl 5 rfl) ?_
  refine lv_iconst (v := 2) hx hb d_law_604 (by decide) ?_
  refine lv_iadd hx hb d_law_605 ?_
  refine lq_ld C h (4 * t + 2) (by omega) (nI_add (4 * t) 2) d_law_606 ?_
  refine lq_cMV C h (c_MD_begin l D cI cZ aM n (xs (4 * t + 1)) (xs (4 * t + 2)) v hS.1.2.2.1 hS.1.1) ki_MD_begin kw_720 rfl rfl rfl ⟨by decide, by decide⟩ rfl hl.1 rfl (Nat.le_of_ble_eq_true rfl) d_law_607 hc hs (fun v1 H locs hp2 h => ?_)
  have gb := lq_bad hS (xs (4 * t + 1)) (xs (4 * t + 2))
  have hf : v1.1 13 = k ∧ True ∧ sm_J z1.1 v1 := by
    rcases hp with ⟨e0, ⟨q1, q2⟩, e5⟩ | ⟨E, ⟨q1, q2, q3⟩, e4, e5⟩ <;> rcases hp2 with ⟨w1, w2⟩ | ⟨w1, m9, w2, w3⟩
    · exact absurd (gb.mpr w1) q1
    · obtain ⟨g1, g2⟩ := sm_begin hS (xs (4 * t + 1)) (xs (4 * t + 2)) z1.1 m9 q1 q2 w2
      rw [w3, e0]; exact ⟨g1, trivial, g2⟩
    · rw [w2, e4, q1, q2]; exact ⟨lq_13 v 1, trivial, n, hS.s13 1⟩
    · exact absurd (gb.mp q3) w1
  refine lv_aload_n hx hb d_law_610 rfl (lv_at hl 3 rfl) ?_
  refine lq_cM C h (c_MD_thrown l D cI cZ aM v1) ki_MD_thrown kw_666 rfl rfl rfl ⟨by decide, by decide⟩ rfl hl.1 rfl (Nat.le_of_ble_eq_true rfl) d_law_611 hc hs (fun r3 v2 H locs hp3 h => ?_)
  obtain ⟨e31, e32⟩ := hp3
  rw [e32] at h
  refine lv_iload hx hb d_law_614 (lv_at hl 0 rfl) ?_
  refine lv_icmp_eq hx hb d_law_616 (tgt := 621) rfl (fun _ => ?_) (fun q => absurd (e31.trans hf.1) q)
  refine lv_goto hx hb d_law_621 (tgt := 800) rfl ?_
  exact kk _ _ _ _ _ hf.2.2 h (lv_sub hl [1, 2, 3, 4, 5] rfl)
set_option maxHeartbeats 4000000 in
set_option maxRecDepth 100000 in
theorem lq_k_steps {p : Program} {l : Launch} {e : Env} {s : State} {m : MethodId} {below : List Frame} {meth : Method} {c : Code} {H : Heap} {locs : List Loc} {cells slots : Nat} {Q : State → Prop} {ls : Array Slot} {D : va_G} {A : Nat → Prop} {cI cL cZ : ClassId} {b L : Nat} {xs : Nat → Int32} {qo : Nat} {aC aM : Nat → Nat} {z : tw_S} {v : tm_SC} {t n : Nat} (C : lq_X l p m c s b meth D A cI cL cZ L xs) (ht : 4 * t + 4 ≤ L) (hS : sm_S n z.1 v) (hc : cells + 1 ≤ 1075) (hs : slots + 6 ≤ 17767) (h : tm_H D A s (lq_w qo aC aM cI cL cZ z v) H locs) (hl : lv_has ls 7 [(0, .ref (b)), (1, .ref (aC 0)), (2, .ref (aM 0)), (3, .ref (qo)), (4, .int (nI (4 * t)))])
    (kk : ∀ (z' : tw_S) (v' : tm_SC) (H1 : Heap) (locs1 : List Loc) (ls1 : Array Slot), sm_J z'.1 v' → tm_H D A s (lq_w qo aC aM cI cL cZ z' v') H1 locs1 → lv_has ls1 7 [(0, .ref (b)), (1, .ref (aC 0)), (2, .ref (aM 0)), (3, .ref (qo)), (4, .int (nI (4 * t)))] → W p l e room_1 s m #[Value.ref b] below meth c H1 locs1 (cells + 1) (slots + 6) Q (F0 m 800 ls1 [])) : W p l e room_1 s m #[Value.ref b] below meth c H locs cells slots Q (F0 m 624 ls []) := by
  have X := C.1
  have hx := X.1.1
  have hb := X.1.2.1
  have hst := C.2.2.2.2.2.2.1
  refine lv_aload_n hx hb d_law_624 rfl (lv_at hl 1 rfl) ?_
  refine lv_aload_n hx hb d_law_625 rfl (lv_at hl 0 rfl) ?_
  refine lv_iload hx hb d_law_626 (lv_at hl 4 rfl) ?_
  refine lv_iconst (v := 1) hx hb d_law_628 (by decide) ?_
  refine lv_iadd hx hb d_law_629 ?_
  refine lq_ld C h (4 * t + 1) (by omega) (nI_add (4 * t) 1) d_law_630 ?_
  refine lv_aload_n hx hb d_law_631 rfl (lv_at hl 3 rfl) ?_
  refine lq_cW C h (c_LW_steps l D cI cL cZ aC qo (xs (4 * t + 1)) z _ _ (c_TM_steps l D cI cL cZ aC hst sm_JC cs_T cs_TX (xs (4 * t + 1)) z.1 (fun w hw h1 => sm_cS hst hw h1) (fun w v9 hw h1 hT => hw.T h1 hT) ⟨n, v, hS⟩) (fun E v9 q => q.elim (fun w => Or.inl w.1) (fun w => lq_cod (lq_sx _ _ _ _ ⟨n, v, hS⟩ w.2)))) wk_steps kw_401 rfl rfl ⟨by decide, by decide⟩ rfl hl.1 rfl (Nat.le_of_ble_eq_true rfl) d_law_632 hc hs (fun k z1 H locs hp h => ?_)
  refine lv_istore hx hb d_law_635 hl (by decide) rfl (fun ls (hl : lv_has ls 7 [(5, .int (k)), (0, .ref (b)), (1, .ref (aC 0)), (2, .ref (aM 0)), (3, .ref (qo)), (4, .int (nI (4 * t)))]) => ?_)
  refine lv_aload_n hx hb d_law_637 rfl (lv_at hl 3 rfl) ?_
  refine lv_aload_n hx hb d_law_638 rfl (lv_at hl 1 rfl) ?_
  refine lv_iload hx hb d_law_639 (lv_at hl 5 rfl) ?_
  refine lv_iconst (v := 1) hx hb d_law_641 (by decide) ?_
  refine lv_iadd hx hb d_law_642 ?_
  refine lq_ld C h (4 * t + 1) (by omega) (nI_add (4 * t) 1) d_law_643 ?_
  refine lq_cM C h (c_MD_steps l D cI cZ aM sm_JM ms_T (xs (4 * t + 1)) v (fun w hw h1 => sm_mS hw h1) (fun w r9 v9 hw h1 hT => hw.T h1 hT) ⟨n, z.1, hS.s13 0⟩) ki_MD_steps kw_742 rfl rfl rfl ⟨by decide, by decide⟩ rfl hl.1 rfl (Nat.le_of_ble_eq_true rfl) d_law_644 hc hs (fun r2 v1 H locs hp2 h => ?_)
  have hf : v1.1 13 = k ∧ (k = 0 → z1.2 0 = r2.toInt64) ∧ sm_J z1.1 v1 := by
    rcases hp with ⟨e0, r, ⟨q1, d1, q2, q3⟩, e5⟩ | ⟨E, (⟨q1, q2, q3⟩ | ⟨q1, q2⟩), e4, e5⟩ <;> rcases hp2 with ⟨w1, w2, w3⟩ | ⟨w1, d2, w2, w3⟩
    · exact absurd w1 q1
    · obtain ⟨g1, g2, g3⟩ := sm_runN _ 0 _ _ _ _ _ _ (hS.s13 0) (lq_13 v 0) q2 w2
      rw [if_pos g2] at w3
      exact lq_f1 e0 e5 rfl q3 ⟨g2, by rw [w3, g1], n, g3⟩
    · exact lq_f2 e4 q1 q2 rfl (by decide) (by rw [w3]; exact ⟨lq_13 v 1, n, hS.s13 1⟩)
    · exact absurd q3 w1
    · exact absurd w1 q1
    · obtain ⟨g1, g2, g3⟩ := sm_runX _ 0 _ _ _ _ _ _ (hS.s13 0) q2 w2
      exact lq_f2 e4 rfl rfl rfl (by rw [g1] at g2; exact g2) ⟨g1, n, g3⟩
  refine lv_istore hx hb d_law_647 hl (by decide) rfl (fun ls (hl : lv_has ls 7 [(6, .int (r2)), (5, .int (k)), (0, .ref (b)), (1, .ref (aC 0)), (2, .ref (aM 0)), (3, .ref (qo)), (4, .int (nI (4 * t)))]) => ?_)
  refine lv_aload_n hx hb d_law_649 rfl (lv_at hl 4 rfl) ?_
  refine lq_cM C h (c_MD_thrown l D cI cZ aM v1) ki_MD_thrown kw_666 rfl rfl rfl ⟨by decide, by decide⟩ rfl hl.1 rfl (Nat.le_of_ble_eq_true rfl) d_law_650 hc hs (fun r3 v2 H locs hp3 h => ?_)
  obtain ⟨e31, e32⟩ := hp3
  rw [e32] at h
  refine lv_iload hx hb d_law_653 (lv_at hl 1 rfl) ?_
  refine lv_icmp_eq hx hb d_law_655 (tgt := 660) rfl (fun _ => ?_) (fun q => absurd (e31.trans hf.1) q)
  refine lv_iload hx hb d_law_660 (lv_at hl 1 rfl) ?_
  refine lv_if_ne hx hb d_law_662 (tgt := 677) rfl (fun h662t => ?_) (fun h662f => ?_)
  · refine lv_goto hx hb d_law_677 (tgt := 800) rfl ?_
    exact kk _ _ _ _ _ hf.2.2 h (lv_sub hl [2, 3, 4, 5, 6] rfl)
  · refine lv_aload_n hx hb d_law_665 rfl (lv_at hl 5 rfl) ?_
    refine lv_iconst (v := 0) hx hb d_law_666 (by decide) ?_
    refine tm_lald X h 0 1 rfl rfl 0 (by decide) rfl (by decide) d_law_667 ?_
    refine lv_iload hx hb d_law_668 (lv_at hl 0 rfl) ?_
    refine lv_i2l hx hb d_law_670 rfl ?_
    refine W.lcmp hx hb d_law_671 ?_
    refine lv_if_eq hx hb d_law_672 (tgt := 677) rfl (fun _ => ?_) (fun q => absurd ((lg_cmp_eq _ _).mpr (hf.2.1 h662f)) q)
    refine lv_goto hx hb d_law_677 (tgt := 800) rfl ?_
    exact kk _ _ _ _ _ hf.2.2 h (lv_sub hl [2, 3, 4, 5, 6] rfl)
set_option maxHeartbeats 4000000 in
set_option maxRecDepth 100000 in
theorem lq_k_about {p : Program} {l : Launch} {e : Env} {s : State} {m : MethodId} {below : List Frame} {meth : Method} {c : Code} {H : Heap} {locs : List Loc} {cells slots : Nat} {Q : State → Prop} {ls : Array Slot} {D : va_G} {A : Nat → Prop} {cI cL cZ : ClassId} {b L : Nat} {xs : Nat → Int32} {qo : Nat} {aC aM : Nat → Nat} {z : tw_S} {v : tm_SC} {t n : Nat} (C : lq_X l p m c s b meth D A cI cL cZ L xs) (ht : 4 * t + 4 ≤ L) (hS : sm_S n z.1 v) (hc : cells + 1 ≤ 1075) (hs : slots + 6 ≤ 17767) (h : tm_H D A s (lq_w qo aC aM cI cL cZ z v) H locs) (hl : lv_has ls 7 [(0, .ref (b)), (1, .ref (aC 0)), (2, .ref (aM 0)), (3, .ref (qo)), (4, .int (nI (4 * t)))])
    (kk : ∀ (z' : tw_S) (v' : tm_SC) (H1 : Heap) (locs1 : List Loc) (ls1 : Array Slot), sm_J z'.1 v' → tm_H D A s (lq_w qo aC aM cI cL cZ z' v') H1 locs1 → lv_has ls1 7 [(0, .ref (b)), (1, .ref (aC 0)), (2, .ref (aM 0)), (3, .ref (qo)), (4, .int (nI (4 * t)))] → W p l e room_1 s m #[Value.ref b] below meth c H1 locs1 (cells + 1) (slots + 6) Q (F0 m 800 ls1 [])) : W p l e room_1 s m #[Value.ref b] below meth c H locs cells slots Q (F0 m 680 ls []) := by
  have X := C.1
  have hx := X.1.1
  have hb := X.1.2.1
  have hst := C.2.2.2.2.2.2.1
  refine lv_aload_n hx hb d_law_680 rfl (lv_at hl 1 rfl) ?_
  refine lv_aload_n hx hb d_law_681 rfl (lv_at hl 0 rfl) ?_
  refine lv_iload hx hb d_law_682 (lv_at hl 4 rfl) ?_
  refine lv_iconst (v := 1) hx hb d_law_684 (by decide) ?_
  refine lv_iadd hx hb d_law_685 ?_
  refine lq_ld C h (4 * t + 1) (by omega) (nI_add (4 * t) 1) d_law_686 ?_
  refine lq_cC C h (c_TM_about l D cI cL cZ aC (xs (4 * t + 1)) z.1) ki_TM_about kw_172 rfl rfl rfl ⟨by decide, by decide⟩ rfl hl.1 rfl (Nat.le_of_ble_eq_true rfl) d_law_687 (by omega) (by omega) (fun r1 u1 H locs hp1 h => ?_)
  refine lv_aload_n hx hb d_law_690 rfl (lv_at hl 2 rfl) ?_
  refine lv_aload_n hx hb d_law_691 rfl (lv_at hl 0 rfl) ?_
  refine lv_iload hx hb d_law_692 (lv_at hl 4 rfl) ?_
  refine lv_iconst (v := 1) hx hb d_law_694 (by decide) ?_
  refine lv_iadd hx hb d_law_695 ?_
  refine lq_ld C h (4 * t + 1) (by omega) (nI_add (4 * t) 1) d_law_696 ?_
  refine lq_cM C h (c_MD_about l D cI cZ aM (xs (4 * t + 1)) v) ki_MD_about kw_789 rfl rfl rfl ⟨by decide, by decide⟩ rfl hl.1 rfl (Nat.le_of_ble_eq_true rfl) d_law_697 (by omega) (by omega) (fun r2 v1 H locs hp2 h => ?_)
  obtain ⟨e11, e12⟩ := hp1
  obtain ⟨e21, e22⟩ := hp2
  have hj := sm_about hS (xs (4 * t + 1))
  rw [e12, e22] at h
  refine lv_icmp_eq hx hb d_law_700 (tgt := 800) rfl (fun _ => ?_) (fun q => absurd (e11.trans (hj.1.trans e21.symm)) q)
  refine W.widen (k := cells + 1) (n := slots + 6) (by omega) (by omega) ?_
  exact kk _ _ _ _ _ hj.2 h (lv_sub hl [0, 1, 2, 3, 4] rfl)
set_option maxHeartbeats 4000000 in
set_option maxRecDepth 100000 in
theorem lq_k_result {p : Program} {l : Launch} {e : Env} {s : State} {m : MethodId} {below : List Frame} {meth : Method} {c : Code} {H : Heap} {locs : List Loc} {cells slots : Nat} {Q : State → Prop} {ls : Array Slot} {D : va_G} {A : Nat → Prop} {cI cL cZ : ClassId} {b L : Nat} {xs : Nat → Int32} {qo : Nat} {aC aM : Nat → Nat} {z : tw_S} {v : tm_SC} {t n : Nat} (C : lq_X l p m c s b meth D A cI cL cZ L xs) (ht : 4 * t + 4 ≤ L) (hS : sm_S n z.1 v) (hc : cells + 1 ≤ 1075) (hs : slots + 6 ≤ 17767) (h : tm_H D A s (lq_w qo aC aM cI cL cZ z v) H locs) (hl : lv_has ls 7 [(0, .ref (b)), (1, .ref (aC 0)), (2, .ref (aM 0)), (3, .ref (qo)), (4, .int (nI (4 * t)))])
    (kk : ∀ (z' : tw_S) (v' : tm_SC) (H1 : Heap) (locs1 : List Loc) (ls1 : Array Slot), sm_J z'.1 v' → tm_H D A s (lq_w qo aC aM cI cL cZ z' v') H1 locs1 → lv_has ls1 7 [(0, .ref (b)), (1, .ref (aC 0)), (2, .ref (aM 0)), (3, .ref (qo)), (4, .int (nI (4 * t)))] → W p l e room_1 s m #[Value.ref b] below meth c H1 locs1 (cells + 1) (slots + 6) Q (F0 m 800 ls1 [])) : W p l e room_1 s m #[Value.ref b] below meth c H locs cells slots Q (F0 m 705 ls []) := by
  have X := C.1
  have hx := X.1.1
  have hb := X.1.2.1
  have hst := C.2.2.2.2.2.2.1
  refine lv_aload_n hx hb d_law_705 rfl (lv_at hl 1 rfl) ?_
  refine lv_aload_n hx hb d_law_706 rfl (lv_at hl 3 rfl) ?_
  refine lq_cW C h (c_LW_result l D cI cL cZ aC qo  z _ _ (c_TM_result l D cI cL cZ aC hst z.1) (fun E v9 q => q.1)) wk_result kw_547 rfl rfl ⟨by decide, by decide⟩ rfl hl.1 rfl (Nat.le_of_ble_eq_true rfl) d_law_707 hc hs (fun k z1 H locs hp h => ?_)
  refine lv_istore hx hb d_law_710 hl (by decide) rfl (fun ls (hl : lv_has ls 7 [(5, .int (k)), (0, .ref (b)), (1, .ref (aC 0)), (2, .ref (aM 0)), (3, .ref (qo)), (4, .int (nI (4 * t)))]) => ?_)
  refine lv_aload_n hx hb d_law_712 rfl (lv_at hl 3 rfl) ?_
  refine lq_cM C h (c_MD_result l D cI cZ aM v (sm_result hS).2.2.2) ki_MD_result kw_793 rfl rfl rfl ⟨by decide, by decide⟩ rfl hl.1 rfl (Nat.le_of_ble_eq_true rfl) d_law_713 hc hs (fun r2 v1 H locs hp2 h => ?_)
  obtain ⟨g1, g2, g3, -⟩ := sm_result hS
  have hf : v1.1 13 = k ∧ (k = 0 → z1.2 0 = r2.toInt64) ∧ sm_J z1.1 v1 := by
    obtain ⟨e1, e2⟩ := hp2
    rw [← e2] at g1 g2 g3
    rcases hp with ⟨e0, r, ⟨⟨q1, q2⟩, q3⟩, e5⟩ | ⟨E, ⟨q1, q2, q3⟩, e4, e5⟩
    · exact lq_f1 e0 e5 q2 q1 ⟨(g1 q3).1, (g1 q3).2.1.trans e1.symm, g3⟩
    · exact lq_f2 e4 q1 q2 rfl (by decide) ⟨g2 q3, g3⟩
  refine lv_istore hx hb d_law_716 hl (by decide) rfl (fun ls (hl : lv_has ls 7 [(6, .int (r2)), (5, .int (k)), (0, .ref (b)), (1, .ref (aC 0)), (2, .ref (aM 0)), (3, .ref (qo)), (4, .int (nI (4 * t)))]) => ?_)
  refine lv_aload_n hx hb d_law_718 rfl (lv_at hl 4 rfl) ?_
  refine lq_cM C h (c_MD_thrown l D cI cZ aM v1) ki_MD_thrown kw_666 rfl rfl rfl ⟨by decide, by decide⟩ rfl hl.1 rfl (Nat.le_of_ble_eq_true rfl) d_law_719 hc hs (fun r3 v2 H locs hp3 h => ?_)
  obtain ⟨e31, e32⟩ := hp3
  rw [e32] at h
  refine lv_iload hx hb d_law_722 (lv_at hl 1 rfl) ?_
  refine lv_icmp_eq hx hb d_law_724 (tgt := 729) rfl (fun _ => ?_) (fun q => absurd (e31.trans hf.1) q)
  refine lv_iload hx hb d_law_729 (lv_at hl 1 rfl) ?_
  refine lv_if_ne hx hb d_law_731 (tgt := 746) rfl (fun h731t => ?_) (fun h731f => ?_)
  · refine lv_goto hx hb d_law_746 (tgt := 800) rfl ?_
    exact kk _ _ _ _ _ hf.2.2 h (lv_sub hl [2, 3, 4, 5, 6] rfl)
  · refine lv_aload_n hx hb d_law_734 rfl (lv_at hl 5 rfl) ?_
    refine lv_iconst (v := 0) hx hb d_law_735 (by decide) ?_
    refine tm_lald X h 0 1 rfl rfl 0 (by decide) rfl (by decide) d_law_736 ?_
    refine lv_iload hx hb d_law_737 (lv_at hl 0 rfl) ?_
    refine lv_i2l hx hb d_law_739 rfl ?_
    refine W.lcmp hx hb d_law_740 ?_
    refine lv_if_eq hx hb d_law_741 (tgt := 746) rfl (fun _ => ?_) (fun q => absurd ((lg_cmp_eq _ _).mpr (hf.2.1 h731f)) q)
    refine lv_goto hx hb d_law_746 (tgt := 800) rfl ?_
    exact kk _ _ _ _ _ hf.2.2 h (lv_sub hl [2, 3, 4, 5, 6] rfl)
set_option maxHeartbeats 4000000 in
set_option maxRecDepth 100000 in
theorem lq_k_isClosure {p : Program} {l : Launch} {e : Env} {s : State} {m : MethodId} {below : List Frame} {meth : Method} {c : Code} {H : Heap} {locs : List Loc} {cells slots : Nat} {Q : State → Prop} {ls : Array Slot} {D : va_G} {A : Nat → Prop} {cI cL cZ : ClassId} {b L : Nat} {xs : Nat → Int32} {qo : Nat} {aC aM : Nat → Nat} {z : tw_S} {v : tm_SC} {t n : Nat} (C : lq_X l p m c s b meth D A cI cL cZ L xs) (ht : 4 * t + 4 ≤ L) (hS : sm_S n z.1 v) (hc : cells + 1 ≤ 1075) (hs : slots + 6 ≤ 17767) (h : tm_H D A s (lq_w qo aC aM cI cL cZ z v) H locs) (hl : lv_has ls 7 [(0, .ref (b)), (1, .ref (aC 0)), (2, .ref (aM 0)), (3, .ref (qo)), (4, .int (nI (4 * t)))])
    (kk : ∀ (z' : tw_S) (v' : tm_SC) (H1 : Heap) (locs1 : List Loc) (ls1 : Array Slot), sm_J z'.1 v' → tm_H D A s (lq_w qo aC aM cI cL cZ z' v') H1 locs1 → lv_has ls1 7 [(0, .ref (b)), (1, .ref (aC 0)), (2, .ref (aM 0)), (3, .ref (qo)), (4, .int (nI (4 * t)))] → W p l e room_1 s m #[Value.ref b] below meth c H1 locs1 (cells + 1) (slots + 6) Q (F0 m 800 ls1 [])) : W p l e room_1 s m #[Value.ref b] below meth c H locs cells slots Q (F0 m 749 ls []) := by
  have X := C.1
  have hx := X.1.1
  have hb := X.1.2.1
  have hst := C.2.2.2.2.2.2.1
  refine lv_aload_n hx hb d_law_749 rfl (lv_at hl 1 rfl) ?_
  refine lv_aload_n hx hb d_law_750 rfl (lv_at hl 3 rfl) ?_
  refine lq_cW C h (c_LW_isClosure l D cI cL cZ aC qo  z _ _ (c_TM_isClosure l D cI cL cZ aC hst z.1 hS.2.1.2.2.2.2.1) (fun E v9 q => q.1)) wk_isClosure kw_559 rfl rfl ⟨by decide, by decide⟩ rfl hl.1 rfl (Nat.le_of_ble_eq_true rfl) d_law_751 hc hs (fun k z1 H locs hp h => ?_)
  refine lv_istore hx hb d_law_754 hl (by decide) rfl (fun ls (hl : lv_has ls 7 [(5, .int (k)), (0, .ref (b)), (1, .ref (aC 0)), (2, .ref (aM 0)), (3, .ref (qo)), (4, .int (nI (4 * t)))]) => ?_)
  refine lv_aload_n hx hb d_law_756 rfl (lv_at hl 3 rfl) ?_
  refine lq_cM C h (c_MD_isClosure l D cI cZ aM v) ki_MD_isClosure kw_797 rfl rfl rfl ⟨by decide, by decide⟩ rfl hl.1 rfl (Nat.le_of_ble_eq_true rfl) d_law_757 hc hs (fun r2 v1 H locs hp2 h => ?_)
  obtain ⟨g1, g2, g3, -⟩ := sm_result hS
  have hf : v1.1 13 = k ∧ (k = 0 → z1.2 0 = (if r2 = 0 then 0 else 1)) ∧ sm_J z1.1 v1 := by
    obtain ⟨e1, e2⟩ := hp2
    rw [← e2] at g1 g2 g3
    rcases hp with ⟨e0, r, ⟨⟨q1, q2⟩, q3⟩, e5⟩ | ⟨E, ⟨q1, q2, q3⟩, e4, e5⟩
    · rw [q2, e0]; exact ⟨(g1 q3).1, fun _ => by rw [e5, e1, ← (g1 q3).2.2, q1]; exact lq_ite _ _, g3⟩
    · exact lq_f2 e4 q1 q2 rfl (by decide) ⟨g2 q3, g3⟩
  refine lv_istore hx hb d_law_760 hl (by decide) rfl (fun ls (hl : lv_has ls 7 [(6, .int (r2)), (5, .int (k)), (0, .ref (b)), (1, .ref (aC 0)), (2, .ref (aM 0)), (3, .ref (qo)), (4, .int (nI (4 * t)))]) => ?_)
  refine lv_aload_n hx hb d_law_762 rfl (lv_at hl 4 rfl) ?_
  refine lq_cM C h (c_MD_thrown l D cI cZ aM v1) ki_MD_thrown kw_666 rfl rfl rfl ⟨by decide, by decide⟩ rfl hl.1 rfl (Nat.le_of_ble_eq_true rfl) d_law_763 hc hs (fun r3 v2 H locs hp3 h => ?_)
  obtain ⟨e31, e32⟩ := hp3
  rw [e32] at h
  refine lv_iload hx hb d_law_766 (lv_at hl 1 rfl) ?_
  refine lv_icmp_eq hx hb d_law_768 (tgt := 773) rfl (fun _ => ?_) (fun q => absurd (e31.trans hf.1) q)
  refine lv_iload hx hb d_law_773 (lv_at hl 1 rfl) ?_
  refine lv_if_ne hx hb d_law_775 (tgt := 797) rfl (fun h775t => ?_) (fun h775f => ?_)
  · refine lv_goto hx hb d_law_797 (tgt := 800) rfl ?_
    exact kk _ _ _ _ _ hf.2.2 h (lv_sub hl [2, 3, 4, 5, 6] rfl)
  · refine lv_aload_n hx hb d_law_778 rfl (lv_at hl 5 rfl) ?_
    refine lv_iconst (v := 0) hx hb d_law_779 (by decide) ?_
    refine tm_lald X h 0 1 rfl rfl 0 (by decide) rfl (by decide) d_law_780 ?_
    refine lv_iload hx hb d_law_781 (lv_at hl 0 rfl) ?_
    refine lv_if_eq hx hb d_law_783 (tgt := 790) rfl (fun h783t => ?_) (fun h783f => ?_)
    · refine lv_lconst (v := 0) hx hb d_law_790 (by decide) ?_
      refine W.lcmp hx hb d_law_791 ?_
      refine lv_if_eq hx hb d_law_792 (tgt := 797) rfl (fun _ => ?_) (fun q => absurd ((lg_cmp_eq _ _).mpr ((hf.2.1 h775f).trans (if_pos h783t))) q)
      refine lv_goto hx hb d_law_797 (tgt := 800) rfl ?_
      exact kk _ _ _ _ _ hf.2.2 h (lv_sub hl [2, 3, 4, 5, 6] rfl)
    · refine lv_lconst (v := 1) hx hb d_law_786 (by decide) ?_
      refine lv_goto hx hb d_law_787 (tgt := 791) rfl ?_
      refine W.lcmp hx hb d_law_791 ?_
      refine lv_if_eq hx hb d_law_792 (tgt := 797) rfl (fun _ => ?_) (fun q => absurd ((lg_cmp_eq _ _).mpr ((hf.2.1 h775f).trans (if_neg h783f))) q)
      refine lv_goto hx hb d_law_797 (tgt := 800) rfl ?_
      exact kk _ _ _ _ _ hf.2.2 h (lv_sub hl [2, 3, 4, 5, 6] rfl)
