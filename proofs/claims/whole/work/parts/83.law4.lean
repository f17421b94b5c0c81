theorem kw_18 : (Jvm.Cond.classLink "TrimmedMachineLaw" (8 : Nat) "TrimmedMachine") ∈ tm_wa := tm_tb (List.mem_append_left _ (List.mem_of_getElem? (i := 18) (by decide +kernel))) rfl
theorem kw_19 : (Jvm.Cond.instantiable "TrimmedMachine" (2 : Nat)) ∈ tm_wa := tm_tb (List.mem_append_left _ (List.mem_of_getElem? (i := 19) (by decide +kernel))) rfl
theorem kw_20 : (Jvm.Cond.methodLink "TrimmedMachineLaw" (56 : Nat) ({ cls := "TrimmedMachine", name := "<init>", desc := "()V" } : Jvm.MethodName)) ∈ tm_wa := tm_tb (List.mem_append_left _ (List.mem_of_getElem? (i := 20) (by decide +kernel))) rfl
theorem kw_21 : (Jvm.Cond.instanceMethod ({ cls := "TrimmedMachine", name := "<init>", desc := "()V" } : Jvm.MethodName)) ∈ tm_wa := tm_tb (List.mem_append_left _ (List.mem_of_getElem? (i := 21) (by decide +kernel))) rfl
theorem kw_566 : (Jvm.Cond.classLink "TrimmedMachineLaw" (57 : Nat) "TrimmedMachineModel") ∈ tm_wa := tm_tb (List.mem_append_right _ (List.mem_append_right _ (List.mem_append_left _ (List.mem_of_getElem? (i := 86) (by decide +kernel))))) rfl
theorem kw_567 : (Jvm.Cond.instantiable "TrimmedMachineModel" (31 : Nat)) ∈ tm_wa := tm_tb (List.mem_append_right _ (List.mem_append_right _ (List.mem_append_left _ (List.mem_of_getElem? (i := 87) (by decide +kernel))))) rfl
theorem kw_568 : (Jvm.Cond.methodLink "TrimmedMachineLaw" (59 : Nat) ({ cls := "TrimmedMachineModel", name := "<init>", desc := "()V" } : Jvm.MethodName)) ∈ tm_wa := tm_tb (List.mem_append_right _ (List.mem_append_right _ (List.mem_append_left _ (List.mem_of_getElem? (i := 88) (by decide +kernel))))) rfl
theorem kw_569 : (Jvm.Cond.instanceMethod ({ cls := "TrimmedMachineModel", name := "<init>", desc := "()V" } : Jvm.MethodName)) ∈ tm_wa := tm_tb (List.mem_append_right _ (List.mem_append_right _ (List.mem_append_left _ (List.mem_of_getElem? (i := 89) (by decide +kernel))))) rfl
/-! THE CLAIM OUT OF ONE WALK OF THE LAW'S BODY. Your part is whole_start (and what it stands on); all else here is the same for every law, but numbers. -/
def R_law : String := "TrimmedMachineLaw"
def lw_P (b : Addr) (xs : List Int32) (args : Array Value) (s : State) : Prop := args = #[.ref b] ∧ s.IntsAt b xs ∧ xs.length ≤ 2048 ∧ (Jvm.Cond.and given_1 narrow_1).before args s = true
def lw_Q (_ : Array Value) (s : State) (o : Outcome) (t : State) : Prop := o = .returned (some (.int 1)) ∧ Framed s o t [] 1075 17767
def lw_Z (below : List Frame) (a : Array Value) (s : State) : State → Prop := fun t => ∃ o, t.status = .running ∧ Ended t below o ∧ lw_Q a s o t
/-- the law's own end, with 1 on the stack, nothing written that was there before, its room as the claim has it -/
theorem lw_ret {p : Program} {l : Launch} {e : Env} {s : State} {m : MethodId} {below : List Frame} {meth : Method} {c : Code} {b : Nat} (hx : p.tables.exec = Jvm.exec) (hb : c.code = code) (hr : meth.sig.returnType = ret) (hlocks : meth.locks = false) {pc : Nat} {H : Heap} {ls : Array Slot} (hdg : decode code pc = .ok (.ireturn, 1)) : W p l e room_1 s m #[Value.ref b] below meth c H [] 1075 17767 (lw_Z below #[Value.ref b] s) (F0 m pc ls [.int 1]) := by
  intro T hT X
  obtain ⟨fs, hret, hrun, hended, hW, hframe⟩ := X.leave (v := some (.int 1)) (hlocks := hlocks) (fun h => by rw [hr] at h; cases h)
  have hmeth' : T.vm.method? m = some meth := X.method'
  refine ⟨T.setFrames fs, ?_, .returned (some (.int 1)), hrun, hended, rfl, ⟨_, rfl⟩, hW, hframe⟩
  jvm_step X.here [X.here.top, hx, hb, hdg, hmeth', hr, ret, narrow_b1]
  (try refine ⟨rfl, ?_⟩); (try refine ⟨rfl, ?_⟩)
  first | (intro acts; rw [hret _ acts rfl rfl rfl]) | rw [hret _ _ rfl rfl rfl]
  exact Steps.refl _
/-- what holds at the law's entry: the machine, the code, the tables' words (any of lw_tbl by 'hts w (by decide +kernel)'), the script of L ints xs at the cell b, what the Statement gives of the start (any of its parts by flat_of_before) -/
def lw_At (p : Program) (s : State) (m : MethodId) (meth : Method) (c : Code) (b L : Nat) (xs : Nat → Int32) : Prop :=
  p.tables.exec = Jvm.exec ∧ c.code = code ∧ meth.sig.returnType = ret ∧ c.maxLocals = 7 ∧ s.vm.findClass R_law = some m.cls ∧ (∀ w ∈ lw_tbl, w.before #[Value.ref b] s = true) ∧ va_X b L xs s s.heap ∧ b < s.heap.size ∧ meth.locks = false ∧ (Jvm.Cond.and given_1 narrow_1).before #[Value.ref b] s = true
theorem lq_arr {s : State} {args : Array Value} (ty : FieldType) (hty : (ty = .int ∨ ty = .long) ∨ ty = .boolean) (h : (Cond.arrayClass ty).before args s = true) : ∃ cA : ClassId, ArrOfT s cA ty ∧ va_RA s cA ty := by
  obtain ⟨cA, kA, comp, h1, h2, h3⟩ := Cond.arrayClass_spec h
  refine ⟨cA, fun n z => ⟨fun k q => (by cases q), kA, h2, comp, h3⟩, ?_⟩
  rcases hty with (rfl | rfl) | rfl <;> exact h1
theorem lq_nc : ∀ q ∈ tw_nc, Cond.not (.castable q.1 q.2) ∈ flatC (Cond.and given_1 narrow_1) := by decide +kernel
theorem lq_st : ∀ q ∈ tx_strs, Cond.stringRef q.1 q.2.1 q.2.2 ∈ tables_1 ∧ Cond.exactly (.string q.1 q.2.1) "java/lang/String" ∈ flatC (Cond.and given_1 narrow_1) := by decide +kernel
/-- the start of the law: the tables, the classes, the texts -/
theorem lq_known {p : Program} {s : State} {m : MethodId} {meth : Method} {c : Code} (l : Launch) (hst : l.stackTraces = false) {b L : Nat} {xs : Nat → Int32} (hL : L ≤ 2048) (C0 : lw_At p s m meth c b L xs) :
    ∃ (D : va_G) (cI cL cZ : ClassId), lq_X l p m c s b meth D (fun q => s.heap.size ≤ q) cI cL cZ L xs := by
  obtain ⟨hx, hcode, hret, hml, hown, hts, hXs, hbl, hlk, hgv⟩ := C0
  have hta : ∀ w ∈ tm_wa, w.before #[Value.ref b] s = true := fun w hw => hts w (List.mem_filter.mp hw).1
  have htb : ∀ w ∈ tables_1, w.before #[Value.ref b] s = true := fun w hw => hts w (List.mem_append_right _ hw)
  have hfl := flat_of_before _ hgv
  obtain ⟨c0, i0, k0⟩ := u_known (n := 2) hta uw_TM (hta _ kw_19)
  obtain ⟨c1, i1, k1⟩ := u_known (n := 7) hta uw_EX (hta _ kw_27)
  obtain ⟨c2, i2, k2⟩ := u_known (n := 15) hta uw_RN (hta _ kw_67)
  obtain ⟨c3, i3, k3⟩ := u_known (n := 2) hta uw_RW (hta _ kw_73)
  obtain ⟨c4, i4, k4⟩ := u_known (n := 4) hta uw_CL (hta _ kw_88)
  obtain ⟨c5, i5, k5⟩ := u_known (n := 31) hta uw_MD (hta _ kw_567)
  obtain ⟨cI, a1, a2⟩ := lq_arr .int (Or.inl (Or.inl rfl)) (hta _ kw_65)
  obtain ⟨cL, b1, b2⟩ := lq_arr .long (Or.inl (Or.inr rfl)) (hta _ kw_86)
  obtain ⟨cZ, d1, d2⟩ := lq_arr .boolean (Or.inr rfl) (hta _ kw_110)
  have hA : ∀ a : Nat, a < s.heap.size → ¬ s.heap.size ≤ a := fun a q w => absurd q (Nat.not_lt.mpr w)
  refine ⟨((fun k => match k with | 0 => c0 | 1 => c1 | 2 => c2 | 3 => c3 | 4 => c4 | _ => c5), (fun k => match k with | 0 => i0 | 1 => i1 | 2 => i2 | 3 => i3 | 4 => i4 | _ => i5)), cI, cL, cZ, ⟨⟨hx, hcode, hml, hown, hta⟩, hret, hlk, ⟨?_, ?_⟩, fun q h => h, fun w hw => va_Nw.of (tm_nw_ot hw) (htb w (List.mem_filter.mp hw).1)⟩, hXs, hbl, hA b hbl, ⟨?_, ?_, ?_⟩, ?_, hst, hL⟩
  · intro k q hq
    rcases k with _ | _ | _ | _ | _ | _ | k
    · cases hq; exact k0
    · cases hq; exact k1
    · cases hq; exact k2
    · cases hq; exact k3
    · cases hq; exact k4
    · cases hq; exact k5
    · cases hq
  · intro k q hq
    rcases k with _ | _ | _ | k
    · cases hq; exact ⟨a1, a2⟩
    · cases hq; exact ⟨b1, b2⟩
    · cases hq; exact ⟨d1, d2⟩
    · cases hq
  · exact vx_Zqof (htb _ (by decide +kernel)) (htb _ (by decide +kernel)) (hfl _ (by decide +kernel)) hA
  · exact vx_Zqof (htb _ (by decide +kernel)) (htb _ (by decide +kernel)) (hfl _ (by decide +kernel)) hA
  · intro q hq
    obtain ⟨h1, h2⟩ := lq_st q hq
    obtain ⟨a, -, -, -, ha, -⟩ := Cond.exactly_spec (hfl _ h2)
    exact ⟨a, vk_R.of (htb _ h1) ha⟩
  · exact fun q hq => va_Nc.of (hfl _ (lq_nc q hq))
set_option maxHeartbeats 4000000 in
set_option maxRecDepth 100000 in
theorem lq_start {p : Program} {l : Launch} {e : Env} {s : State} {m : MethodId} {below : List Frame} {meth : Method} {c : Code} {Q : State → Prop} {D : va_G} {A : Nat → Prop} {cI cL cZ : ClassId} {b L : Nat} {xs : Nat → Int32} (C : lq_X l p m c s b meth D A cI cL cZ L xs)
    (kE : ∀ (H1 : Heap) (locs1 : List Loc) (ls1 : Array Slot) (cells slots : Nat), va_S A s.heap H1 locs1 → cells ≤ 1075 → slots ≤ 17767 → W p l e room_1 s m #[Value.ref b] below meth c H1 locs1 cells slots Q (F0 m 806 ls1 [])) {ls : Array Slot} (hl : lv_has ls 7 [(0, .ref b)]) :
    W p l e room_1 s m #[Value.ref b] below meth c s.heap [] 0 0 Q (F0 m 0 ls []) := by
  have X := C.1
  have XM := lq_XM X
  have hx := X.1.1
  have hb := X.1.2.1
  have h : tm_H D A s [] s.heap [] := ⟨fun k q hk => (by cases hk), ⟨fun i j p q hp => (by cases hp), fun k q hk => (by cases hk)⟩, va_S.rf⟩
  refine tm_new X h uw_TM t_TM t_TM_ok kw_18 kw_19 kw_1 (ci := 0) (fs := [.null, .null]) rfl (by decide) (by decide) (by decide) d_law_0 (fun q0 H h => ?_)
  refine lv_dup hx hb d_law_3 rfl ?_
  refine tm_jn (wc := [(q0, .inr (0, [.null, .null]))]) (wr := []) X h [0] [] rfl rfl (by decide) (by decide) (tm_rI X (tm_cut h [0] rfl (by decide) rfl) (c_TM_init l D cI cL cZ q0 _) kd_TM_init kw_21 rfl kw_20 rfl rfl ⟨by decide, by decide⟩ rfl hl.1 rfl (Nat.le_of_ble_eq_true rfl) d_law_4 ⟨by decide, by decide⟩) (fun g0 H locs _ h => ?_)
  refine lv_astore_n hx hb d_law_7 rfl hl (by decide) rfl (fun ls (hl : lv_has ls 7 [(1, .ref q0), (0, .ref b)]) => ?_)
  refine tm_new X h uw_MD t_MD t_MD_ok kw_566 kw_567 kw_6 (ci := 5) (fs := [.int 0, .null, .null, .null, .null, .null, .null, .null, .null, .null, .null, .null, .null, .int 0, .int 0, .int 0, .int 0, .int 0, .int 0, .int 0, .int 0, .int 0, .int 0, .int 0, .null, .null, .null, .null, .null, .int 0, .int 0]) rfl (by decide) (by decide) (by decide) d_law_8 (fun q1 H h => ?_)
  refine lv_dup hx hb d_law_11 rfl ?_
  refine tm_jn (wc := [(q1, .inr (5, [.int 0, .null, .null, .null, .null, .null, .null, .null, .null, .null, .null, .null, .null, .int 0, .int 0, .int 0, .int 0, .int 0, .int 0, .int 0, .int 0, .int 0, .int 0, .int 0, .null, .null, .null, .null, .null, .int 0, .int 0]))]) (wr := wx_TM_init cI cL cZ q0 g0) XM h [18] [0, 1, 2, 3, 4, 5, 6, 7, 8, 9, 10, 11, 12, 13, 14, 15, 16, 17] rfl rfl (by decide) (by decide) (tm_rI XM (tm_cut h [18] rfl (by decide) rfl) (c_MD_init l D cI cZ q1 _) kd_MD_init kw_569 rfl kw_568 rfl rfl ⟨by decide, by decide⟩ rfl hl.1 rfl (Nat.le_of_ble_eq_true rfl) d_law_12 ⟨by decide, by decide⟩) (fun g1 H locs _ h => ?_)
  refine lv_astore_n hx hb d_law_15 rfl hl (by decide) rfl (fun ls (hl : lv_has ls 7 [(2, .ref q1), (1, .ref q0), (0, .ref b)]) => ?_)
  refine lv_iconst (v := 1) hx hb d_law_16 (by decide) ?_
  refine tm_newL X h 1 rfl kw_86 1 (by decide) (by decide) (by decide) (by decide) (by decide) d_law_17 (fun qo H h => ?_)
  refine lv_astore_n hx hb d_law_19 rfl hl (by decide) rfl (fun ls (hl : lv_has ls 7 [(3, .ref qo), (2, .ref q1), (1, .ref q0), (0, .ref b)]) => ?_)
  refine lv_iconst (v := 0) hx hb d_law_20 (by decide) ?_
  refine tm_top (y := nI (4 * 0)) (by decide) ?_
  refine lv_istore hx hb d_law_21 hl (by decide) rfl (fun ls (hl : lv_has ls 7 [(4, .int (nI (4 * 0))), (3, .ref qo), (2, .ref q1), (1, .ref q0), (0, .ref b)]) => ?_)
  have h : tm_H D A s (lq_w qo (fun k => [q0, g0 0, g0 1, g0 2, g0 3, g0 4, g0 5, g0 6, g0 7, g0 15, g0 16, g0 8, g0 9, g0 10, g0 11, g0 12, g0 13, g0 14].getD k 0) (fun k => [q1, g1 0, g1 1, g1 2, g1 3, g1 4, g1 5, g1 6, g1 7, g1 8, g1 9, g1 10, g1 11, g1 12, g1 13, g1 14, g1 15, g1 16].getD k 0) cI cL cZ ((fun _ => 0, fun _ _ => 0, fun _ => 0), fun _ => 0) (fun _ => 0, fun _ _ => 0, fun _ => 0)) H locs := tm_cut h [36, 0, 1, 2, 3, 4, 5, 6, 7, 8, 16, 17, 9, 10, 11, 12, 13, 14, 15, 18, 19, 20, 21, 22, 23, 24, 25, 26, 27, 28, 29, 30, 31, 32, 33, 34, 35] rfl (by decide) rfl
  exact lq_loop C kE _ 0 _ _ H locs ls (Nat.lt_succ_self _) (by decide) ⟨0, sm_zero (fun _ => rfl) (fun _ _ => rfl) (fun _ => rfl) (fun _ _ => rfl)⟩ h (lv_sub hl [4, 3, 2, 1, 0] rfl)
