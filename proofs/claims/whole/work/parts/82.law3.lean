set_option maxHeartbeats 4000000 in
set_option maxRecDepth 100000 in
theorem lq_loop {p : Program} {l : Launch} {e : Env} {s : State} {m : MethodId} {below : List Frame} {meth : Method} {c : Code} {Q : State → Prop} {D : va_G} {A : Nat → Prop} {cI cL cZ : ClassId} {b L : Nat} {xs : Nat → Int32} {qo : Nat} {aC aM : Nat → Nat} (C : lq_X l p m c s b meth D A cI cL cZ L xs)
    (kE : ∀ (H1 : Heap) (locs1 : List Loc) (ls1 : Array Slot) (cells slots : Nat), va_S A s.heap H1 locs1 → cells ≤ 1075 → slots ≤ 17767 → W p l e room_1 s m #[Value.ref b] below meth c H1 locs1 cells slots Q (F0 m 806 ls1 [])) :
    ∀ (nf t : Nat) (z : tw_S) (v : tm_SC) (H : Heap) (locs : List Loc) (ls : Array Slot), 513 - t < nf → 4 * t ≤ 2048 → sm_J z.1 v → tm_H D A s (lq_w qo aC aM cI cL cZ z v) H locs → lv_has ls 7 [(0, .ref (b)), (1, .ref (aC 0)), (2, .ref (aM 0)), (3, .ref (qo)), (4, .int (nI (4 * t)))] → W p l e room_1 s m #[Value.ref b] below meth c H locs (37 + t) (9491 + 6 * t) Q (F0 m 23 ls []) := by
  have X := C.1
  have hx := X.1.1
  have hb := X.1.2.1
  have hL := C.2.2.2.2.2.2.2
  intro nf
  induction nf with
  | zero => intro t z v H locs ls hm; exact absurd hm (Nat.not_lt_zero _)
  | succ nf ih =>
    intro t z v H locs ls hm ht4 hJ h hl
    refine lv_iload hx hb d_law_23 (lv_at hl 4 rfl) ?_
    refine lv_aload_n hx hb d_law_25 rfl (lv_at hl 0 rfl) ?_
    refine lq_len C h d_law_26 ?_
    refine lv_iconst (v := 4) hx hb d_law_27 (by decide) ?_
    refine lv_isub hx hb d_law_28 ?_
    refine lv_icmp_gt hx hb d_law_29 (tgt := 806) rfl (fun q29 => ?_) (fun q29 => ?_)
    · exact kE H locs ls _ _ h.2.2 (by omega) (by omega)
    have ht : 4 * t + 4 ≤ L := Nat.not_lt.mp (fun q => q29 ((lq_end (by omega) hL).mpr q))
    refine lv_aload_n hx hb d_law_32 rfl (lv_at hl 0 rfl) ?_
    refine lv_iload hx hb d_law_33 (lv_at hl 4 rfl) ?_
    refine lq_ld C h (4 * t) (by omega) rfl d_law_35 ?_
    refine lv_bipush (v := 15) hx hb d_law_36 (by decide) ?_
    refine lv_iand hx hb d_law_38 ?_
    obtain ⟨n, hS⟩ := hJ
    have back : ∀ (z' : tw_S) (v' : tm_SC) (H1 : Heap) (locs1 : List Loc) (ls1 : Array Slot), sm_J z'.1 v' → tm_H D A s (lq_w qo aC aM cI cL cZ z' v') H1 locs1 → lv_has ls1 7 [(0, .ref (b)), (1, .ref (aC 0)), (2, .ref (aM 0)), (3, .ref (qo)), (4, .int (nI (4 * t)))] → W p l e room_1 s m #[Value.ref b] below meth c H1 locs1 (37 + t + 1) (9491 + 6 * t + 6) Q (F0 m 800 ls1 []) := by
      intro z' v' H1 locs1 ls1 hJ h hl
      refine lv_iinc (v := nI (4 * (t + 1))) hx hb d_law_800 hl (k := 4) rfl (nI_add (4 * t) 4) (by decide) rfl (fun ls (hl : lv_has ls 7 [(4, .int (nI (4 * (t + 1)))), (0, .ref b), (1, .ref (aC 0)), (2, .ref (aM 0)), (3, .ref qo)]) => ?_)
      refine lv_goto hx hb d_law_803 (tgt := 23) rfl ?_
      refine W.widen (k := 37 + (t + 1)) (n := 9491 + 6 * (t + 1)) (by omega) (by omega) ?_
      exact ih (t + 1) z' v' H1 locs1 ls (by omega) (by omega) hJ h (lv_sub hl [1, 2, 3, 4, 0] rfl)
    by_cases q0 : (xs (4 * t) &&& 15) = 0
    · refine tm_sw 0 q0 hx hb d_law_39 (tgt := 100) (by decide) (by decide) rfl rfl ?_
      exact lq_k_number C ht hS (by omega) (by omega) h hl back
    by_cases q1 : (xs (4 * t) &&& 15) = 1
    · refine tm_sw 1 q1 hx hb d_law_39 (tgt := 156) (by decide) (by decide) rfl rfl ?_
      exact lq_k_variable C ht hS (by omega) (by omega) h hl back
    by_cases q2 : (xs (4 * t) &&& 15) = 2
    · refine tm_sw 2 q2 hx hb d_law_39 (tgt := 212) (by decide) (by decide) rfl rfl ?_
      exact lq_k_function C ht hS (by omega) (by omega) h hl back
    by_cases q3 : (xs (4 * t) &&& 15) = 3
    · refine tm_sw 3 q3 hx hb d_law_39 (tgt := 292) (by decide) (by decide) rfl rfl ?_
      exact lq_k_call C ht hS (by omega) (by omega) h hl back
    by_cases q4 : (xs (4 * t) &&& 15) = 4
    · refine tm_sw 4 q4 hx hb d_law_39 (tgt := 360) (by decide) (by decide) rfl rfl ?_
      exact lq_k_operation C ht hS (by omega) (by omega) h hl back
    by_cases q5 : (xs (4 * t) &&& 15) = 5
    · refine tm_sw 5 q5 hx hb d_law_39 (tgt := 440) (by decide) (by decide) rfl rfl ?_
      exact lq_k_choice C ht hS (by omega) (by omega) h hl back
    by_cases q6 : (xs (4 * t) &&& 15) = 6
    · refine tm_sw 6 q6 hx hb d_law_39 (tgt := 520) (by decide) (by decide) rfl rfl ?_
      exact lq_k_free C ht hS (by omega) (by omega) h hl back
    by_cases q7 : (xs (4 * t) &&& 15) = 7
    · refine tm_sw 7 q7 hx hb d_law_39 (tgt := 576) (by decide) (by decide) rfl rfl ?_
      exact lq_k_begin C ht hS (by omega) (by omega) h hl back
    by_cases q8 : (xs (4 * t) &&& 15) = 8
    · refine tm_sw 8 q8 hx hb d_law_39 (tgt := 624) (by decide) (by decide) rfl rfl ?_
      exact lq_k_steps C ht hS (by omega) (by omega) h hl back
    by_cases q9 : (xs (4 * t) &&& 15) = 9
    · refine tm_sw 9 q9 hx hb d_law_39 (tgt := 680) (by decide) (by decide) rfl rfl ?_
      exact lq_k_about C ht hS (by omega) (by omega) h hl back
    by_cases q10 : (xs (4 * t) &&& 15) = 10
    · refine tm_sw 10 q10 hx hb d_law_39 (tgt := 705) (by decide) (by decide) rfl rfl ?_
      exact lq_k_result C ht hS (by omega) (by omega) h hl back
    by_cases q11 : (xs (4 * t) &&& 15) = 11
    · refine tm_sw 11 q11 hx hb d_law_39 (tgt := 749) (by decide) (by decide) rfl rfl ?_
      exact lq_k_isClosure C ht hS (by omega) (by omega) h hl back
    refine lv_tableOut hx hb d_law_39 (lq_sw q0 q1 q2 q3 q4 q5 q6 q7 q8 q9 q10 q11) (tgt := 800) rfl ?_
    refine W.widen (k := 37 + t + 1) (n := 9491 + 6 * t + 6) (by omega) (by omega) ?_
    exact back z v H locs ls ⟨n, hS⟩ h hl
