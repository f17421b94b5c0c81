/-! the law: 'out', the class's world and the reference's, side by side -/
def lq_w (qo : Nat) (aC aM : Nat → Nat) (cI cL cZ : ClassId) (z : tw_S) (v : tm_SC) : va_W := tw_w qo aC cI cL cZ z ++ tm_wM aM cI cZ v
def lq_X (l : Launch) (p : Program) (m : MethodId) (c : Code) (s : State) (b : Nat) (meth : Method) (D : va_G) (A : Nat → Prop) (cI cL cZ : ClassId) (L : Nat) (xs : Nat → Int32) : Prop :=
  tm_Cx p m c code 7 s #[Value.ref b] "TrimmedMachineLaw" meth ret D A (tm_yC cI cL cZ) ∧ va_X b L xs s s.heap ∧ b < s.heap.size ∧ ¬ A b ∧ tx_E A s s.heap ∧ tw_N s ∧ l.stackTraces = false ∧ L ≤ 2048
theorem lq_end {a L : Nat} (ha : a ≤ 4096) (hL : L ≤ 2048) : (nI L - 4 < nI a) ↔ L < a + 4 := by
  rw [Int32.lt_iff_toInt_lt, Int32.toInt_sub, nI_toInt (by omega), nI_toInt (by omega), show (4 : Int32).toInt = 4 from rfl, Int.bmod_eq_of_le (by omega) (by omega)]
  omega
theorem lq_fI {P : Int32 → tm_SC → Prop} {PX : String → tm_SC → Prop} {k r2 : Int32} {z z' : tw_S} {v' : tm_SC} {cd : List (String × Int32)}
    (h : (k = 0 ∧ ∃ r, P r z'.1 ∧ z'.2 = vp_updL z.2 0 r.toInt64) ∨ (∃ E, PX E z'.1 ∧ k = tw_code cd E ∧ z'.2 = z.2))
    (h1 : ∀ r u', P r u' → v'.1 13 = 0 ∧ r = r2 ∧ sm_J u' v') (h2 : ∀ E u', PX E u' → v'.1 13 = tw_code cd E ∧ ¬ tw_code cd E = 0 ∧ sm_J u' v') :
    v'.1 13 = k ∧ (k = 0 → z'.2 0 = r2.toInt64) ∧ sm_J z'.1 v' := by
  rcases h with ⟨rfl, r, hp, hz⟩ | ⟨E, hp, rfl, hz⟩
  · obtain ⟨a1, a2, a3⟩ := h1 r _ hp
    subst a2
    exact ⟨a1, fun _ => by rw [hz]; exact if_pos rfl, a3⟩
  · obtain ⟨a1, a2, a3⟩ := h2 E _ hp
    exact ⟨a1, fun q => absurd q a2, a3⟩
section LQ
variable {p : Program} {l : Launch} {e : Env} {R : Room} {s : State} {m : MethodId} {args : Array Value} {below : List Frame} {meth : Method} {c : Code} {H : Heap} {locs : List Loc} {cells slots : Nat} {Q : State → Prop}
variable {cc : ByteArray} {pc nL : Nat} {ls : Array Slot} {rest st0 : List Value} {D : va_G} {A : Nat → Prop} {tys : tm_Y} {ws wc wr : va_W} {own : String} {rt : Option FieldType}
theorem lq_jI {S : Type} {post : Int32 → S → Prop} {w1 : S → va_W} {mc ms : Nat} {aa : Array Value} (X : tm_Cx p m c cc nL s args own meth rt D A tys) (h : tm_H D A s ws H locs) (isC isR : List Nat) (hC : isC.map (fun i => ws[i]?) = wc.map some) (hR : isR.map (fun i => ws[i]?) = wr.map some) (hn : va_nd isR = true) (hdis : ∀ i ∈ isR, i ∉ isC)
    (hr : va_Run p l e R s m args below meth c H locs cells slots mc ms (F0 m pc ls st0) rest (va_Qi post (fun x t => tm_B D tys (va_A wc H.size) (w1 x) t) (va_A wc H.size) aa) (va_A wc H.size))
    (kk : ∀ (r : Int32) (x : S) (H1 : Heap) (locs1 : List Loc), post r x → tm_H D A s (wr ++ w1 x) H1 locs1 → W p l e R s m args below meth c H1 locs1 (cells + mc) (slots + ms) Q (F0 m (pc + 3) ls (.int r :: rest))) : W p l e R s m args below meth c H locs cells slots Q (F0 m pc ls st0) := by
  have hF := va_free h.2.1 h.2.2 X.2.2.2.2.1 isC hC
  refine va_calli hr h.2.2 (fun q _ hq => hF q hq) hF (fun r x t H1 locs1 ht _ hp hB _ hk hS => ?_)
  obtain ⟨hP, hD⟩ := va_join h.1 h.2.1 isC isR hC hR hn hdis hk hF (by rw [← ht]; exact hB.1) hB.2.2
  exact kk r x H1 locs1 hp ⟨hP, hD, hS⟩
theorem tw_pre {av : List Value} (X : tm_Cx p m c cc nL s args own meth rt D A tys) (h : tm_H D A s ws H locs) (hE : tx_E A s s.heap) (hN : tw_N s) : ∀ U : State, U.heap = H → s.WarmedH U.vm → va_Pc av (tw_Pre D tys ws H.size) av.toArray U := fun U hU hV => by
  obtain ⟨q0, q1⟩ := tx_pre (av := av) X h hE U hU hV
  exact ⟨q0, q1, tw_N.moved hV.alike hN⟩
/-- what a call site of a wrapper says -/
def tw_ks (y : MethodName) (bytes : ByteArray) (maxL : Nat) (hh : List (Nat × Nat × Nat × Nat)) (n : Nat) : Prop :=
  Cond.initialized y.cls ∈ tm_wa ∧ Cond.codeWith y bytes maxL (some .int) hh ∈ tm_wa ∧ (y.cls ≠ "java/lang/invoke/MethodHandle" ∧ y.cls ≠ "java/lang/invoke/VarHandle" ∧ (parseMethodDescriptor y.desc).map (fun d => d.parameters.length) = some n) ∧ Cond.static y ∈ tm_wa
theorem tw_rS {y : MethodName} {bytes : ByteArray} {maxL index n : Nat} {hh : List (Nat × Nat × Nat × Nat)} {rm : Room} {Qc : Array Value → State → Outcome → State → Prop} {free : Addr → Prop} {As : List Value} (X : tm_Cx p m c cc nL s args own meth rt D A tys) (h : tm_H D A s ws H locs) (hE : tx_E A s s.heap) (hN : tw_N s) (hM : Met l y (Cond.codeWith y bytes maxL (some .int) hh :: tm_wa) rm (va_Pc As (tw_Pre D tys ws H.size)) Qc 1 6 free) (hk : tw_ks y bytes maxL hh n) (hlink : Cond.methodLink own index y ∈ tm_wa)
    (hrc : rm.cells = 1) (hrs : rm.slots = 6) (hR : rm.frames + 1 ≤ R.frames ∧ 8 + (maxL + 11) + rm.locals ≤ R.locals) (hn : As.length = n) (hl : ls.size = nL) (hst : st0 = As.reverse ++ rest) (hW : (rest.map fun v => v.category).sum ≤ 8) (hdg : decode cc pc = .ok (.invokestatic index, 3)) (hcl : cells + 1 ≤ R.cells ∧ slots + 6 ≤ R.slots) :
    va_Run p l e R s m args below meth c H locs cells slots 1 6 (F0 m pc ls st0) rest (Qc As.toArray) free := by
  have hts := X.1.2.2.2.2
  obtain ⟨k1, k2, k3, k4⟩ := hk
  refine vx_runSW X.1 hM (vx_cwSW n hts (tm_goodL ?_) rfl hrc hrs k3 hR) ⟨tw_blind, tw_pre X h hE hN⟩ rfl hn hl hst (lv_room hW) hdg hcl
  intro w hw
  rcases List.mem_append.mp hw with hw | hw
  · simp only [List.mem_cons, List.not_mem_nil, or_false] at hw
    rcases hw with e | e | e <;> (rw [e]; assumption)
  · rcases List.mem_cons.mp hw with e | e
    · rw [e]; exact k2
    · exact e
end LQ
section LQR
variable {p : Program} {l : Launch} {e : Env} {s : State} {m : MethodId} {below : List Frame} {meth : Method} {c : Code} {H : Heap} {locs : List Loc} {cells slots : Nat} {Q : State → Prop}
variable {pc : Nat} {ls : Array Slot} {rest st0 : List Value} {D : va_G} {A : Nat → Prop} {ws : va_W} {cI cL cZ : ClassId} {b L : Nat} {xs : Nat → Int32} {qo : Nat} {aC aM : Nat → Nat} {z : tw_S} {v : tm_SC}
theorem lq_ld (C : lq_X l p m c s b meth D A cI cL cZ L xs) (h : tm_H D A s ws H locs) (j : Nat) (hj : j < L) {i : Int32} (hi : i = nI j) (hdg : decode code pc = .ok (.iaload, 1))
    (kk : W p l e room_1 s m #[Value.ref b] below meth c H locs cells slots Q (F0 m (pc + 1) ls (.int (xs j) :: rest))) : W p l e room_1 s m #[Value.ref b] below meth c H locs cells slots Q (F0 m pc ls (.int i :: .ref b :: rest)) := by
  subst hi
  have hL := C.2.2.2.2.2.2.2
  refine va_sld C.1.1.1 C.1.1.2.1 C.2.1 C.2.2.1 C.2.2.2.1 h.2.2 (vp_in_nI hj (by omega)) hdg ?_
  rw [nI_clamp (by omega)]; exact kk
theorem lq_len (C : lq_X l p m c s b meth D A cI cL cZ L xs) (h : tm_H D A s ws H locs) (hdg : decode code pc = .ok (.arraylength, 1))
    (kk : W p l e room_1 s m #[Value.ref b] below meth c H locs cells slots Q (F0 m (pc + 1) ls (.int (nI L) :: rest))) : W p l e room_1 s m #[Value.ref b] below meth c H locs cells slots Q (F0 m pc ls (.ref b :: rest)) :=
  va_slen C.1.1.1 C.1.1.2.1 C.2.1 C.2.2.1 C.2.2.2.1 h.2.2 hdg kk
theorem lq_XM {rt : Option FieldType} {args : Array Value} {cc : ByteArray} {nL : Nat} {own : String} (X : tm_Cx p m c cc nL s args own meth rt D A (tm_yC cI cL cZ)) : tm_Cx p m c cc nL s args own meth rt D A (tm_yM cI cZ) := ⟨X.1, X.2.1, X.2.2.1, X.2.2.2.1.sub [0, 2] rfl, X.2.2.2.2⟩
/-- a wrapper is called -/
theorem lq_cW {y : MethodName} {bytes : ByteArray} {maxL index n : Nat} {hh : List (Nat × Nat × Nat × Nat)} {rm : Room} {post : Int32 → tw_S → Prop} {As : List Value} (C : lq_X l p m c s b meth D A cI cL cZ L xs) (h : tm_H D A s (lq_w qo aC aM cI cL cZ z v) H locs)
    (hM : ∀ sz : Nat, Met l y (Cond.codeWith y bytes maxL (some .int) hh :: tm_wa) rm (va_Pc As (tw_Pre D (tm_yC cI cL cZ) (tw_w qo aC cI cL cZ z) sz)) (va_Qi post (fun z' t => tm_B D (tm_yC cI cL cZ) (va_A (tw_w qo aC cI cL cZ z) sz) (tw_w qo aC cI cL cZ z') t) (va_A (tw_w qo aC cI cL cZ z) sz)) 1 6 (va_A (tw_w qo aC cI cL cZ z) sz)) (hk : tw_ks y bytes maxL hh n) (hlink : Cond.methodLink "TrimmedMachineLaw" index y ∈ tm_wa)
    (hrc : rm.cells = 1) (hrs : rm.slots = 6) (hR : rm.frames + 1 ≤ room_1.frames ∧ 8 + (maxL + 11) + rm.locals ≤ room_1.locals) (hn : As.length = n) (hl : ls.size = 7) (hst : st0 = As.reverse ++ rest) (hW : (rest.map fun v => v.category).sum ≤ 8) (hdg : decode code pc = .ok (.invokestatic index, 3)) (hc : cells + 1 ≤ 1075) (hs : slots + 6 ≤ 17767)
    (kk : ∀ (k : Int32) (z' : tw_S) (H1 : Heap) (locs1 : List Loc), post k z' → tm_H D A s (lq_w qo aC aM cI cL cZ z' v) H1 locs1 → W p l e room_1 s m #[Value.ref b] below meth c H1 locs1 (cells + 1) (slots + 6) Q (F0 m (pc + 3) ls (.int k :: rest))) : W p l e room_1 s m #[Value.ref b] below meth c H locs cells slots Q (F0 m pc ls st0) := by
  have hcut : tm_H D A s (tw_w qo aC cI cL cZ z) H locs := tm_cut h [0, 1, 2, 3, 4, 5, 6, 7, 8, 9, 10, 11, 12, 13, 14, 15, 16, 17, 18] rfl (by decide) rfl
  refine lq_jI (wc := tw_w qo aC cI cL cZ z) (wr := tm_wM aM cI cZ v) (w1 := tw_w qo aC cI cL cZ) C.1 h [0, 1, 2, 3, 4, 5, 6, 7, 8, 9, 10, 11, 12, 13, 14, 15, 16, 17, 18] [19, 20, 21, 22, 23, 24, 25, 26, 27, 28, 29, 30, 31, 32, 33, 34, 35, 36] rfl rfl (by decide) (by decide)
    (tw_rS C.1 hcut C.2.2.2.2.1 C.2.2.2.2.2.1 (hM _) hk hlink hrc hrs hR hn hl hst hW hdg ⟨hc, hs⟩) (fun k z' H1 locs1 hp h1 => ?_)
  exact kk k z' H1 locs1 hp (tm_cut h1 [18, 19, 20, 21, 22, 23, 24, 25, 26, 27, 28, 29, 30, 31, 32, 33, 34, 35, 36, 0, 1, 2, 3, 4, 5, 6, 7, 8, 9, 10, 11, 12, 13, 14, 15, 16, 17] rfl (by decide) rfl)
section LQM
variable {y : MethodName} {bytes : ByteArray} {maxL index n : Nat} {rm : Room} {As : List Value}
/-- the reference is called -/
theorem lq_cM {r : FieldType} {post : Int32 → tm_SC → Prop} (C : lq_X l p m c s b meth D A cI cL cZ L xs) (h : tm_H D A s (lq_w qo aC aM cI cL cZ z v) H locs)
    (hM : tm_I l y bytes maxL r rm D (tm_yM cI cZ) (tm_wM aM cI cZ) (.ref (aM 0) :: As) v post) (hk : tm_ki y bytes maxL (some r) n) (hlink : Cond.methodLink "TrimmedMachineLaw" index y ∈ tm_wa) (hq : "TrimmedMachineModel" = y.cls)
    (hrc : rm.cells = 0) (hrs : rm.slots = 0) (hR : rm.frames + 1 ≤ room_1.frames ∧ 8 + (maxL + 11) + rm.locals ≤ room_1.locals) (hn : As.length = n) (hl : ls.size = 7) (hst : st0 = As.reverse ++ .ref (aM 0) :: rest) (hW : (rest.map fun v => v.category).sum ≤ 8) (hdg : decode code pc = .ok (.invokevirtual index, 3)) (hc : cells ≤ 1075) (hs : slots ≤ 17767)
    (kk : ∀ (r : Int32) (v' : tm_SC) (H1 : Heap) (locs1 : List Loc), post r v' → tm_H D A s (lq_w qo aC aM cI cL cZ z v') H1 locs1 → W p l e room_1 s m #[Value.ref b] below meth c H1 locs1 cells slots Q (F0 m (pc + 3) ls (.int r :: rest))) : W p l e room_1 s m #[Value.ref b] below meth c H locs cells slots Q (F0 m pc ls st0) := by
  have hcut : tm_H D A s (tm_wM aM cI cZ v) H locs := tm_cut h [19, 20, 21, 22, 23, 24, 25, 26, 27, 28, 29, 30, 31, 32, 33, 34, 35, 36] rfl (by decide) rfl
  have XM := lq_XM C.1
  exact lq_jI (wc := tm_wM aM cI cZ v) (wr := tw_w qo aC cI cL cZ z) (w1 := tm_wM aM cI cZ) XM h [19, 20, 21, 22, 23, 24, 25, 26, 27, 28, 29, 30, 31, 32, 33, 34, 35, 36] [0, 1, 2, 3, 4, 5, 6, 7, 8, 9, 10, 11, 12, 13, 14, 15, 16, 17, 18] rfl rfl (by decide) (by decide)
    (tm_rV (q0 := 0) (ci := 5) XM hcut (hM _) hk hlink rfl rfl hq hrc hrs hR hn hl hst hW hdg ⟨hc, hs⟩) (fun r v' H1 locs1 hp h1 => kk r v' H1 locs1 hp h1)
theorem lq_cMV {post : tm_SC → Prop} (C : lq_X l p m c s b meth D A cI cL cZ L xs) (h : tm_H D A s (lq_w qo aC aM cI cL cZ z v) H locs)
    (hM : tm_V l y bytes maxL rm D (tm_yM cI cZ) (tm_wM aM cI cZ) (.ref (aM 0) :: As) v post) (hk : tm_ki y bytes maxL none n) (hlink : Cond.methodLink "TrimmedMachineLaw" index y ∈ tm_wa) (hq : "TrimmedMachineModel" = y.cls)
    (hrc : rm.cells = 0) (hrs : rm.slots = 0) (hR : rm.frames + 1 ≤ room_1.frames ∧ 8 + (maxL + 11) + rm.locals ≤ room_1.locals) (hn : As.length = n) (hl : ls.size = 7) (hst : st0 = As.reverse ++ .ref (aM 0) :: rest) (hW : (rest.map fun v => v.category).sum ≤ 8) (hdg : decode code pc = .ok (.invokevirtual index, 3)) (hc : cells ≤ 1075) (hs : slots ≤ 17767)
    (kk : ∀ (v' : tm_SC) (H1 : Heap) (locs1 : List Loc), post v' → tm_H D A s (lq_w qo aC aM cI cL cZ z v') H1 locs1 → W p l e room_1 s m #[Value.ref b] below meth c H1 locs1 cells slots Q (F0 m (pc + 3) ls rest)) : W p l e room_1 s m #[Value.ref b] below meth c H locs cells slots Q (F0 m pc ls st0) := by
  have hcut : tm_H D A s (tm_wM aM cI cZ v) H locs := tm_cut h [19, 20, 21, 22, 23, 24, 25, 26, 27, 28, 29, 30, 31, 32, 33, 34, 35, 36] rfl (by decide) rfl
  have XM := lq_XM C.1
  exact tm_jn (wc := tm_wM aM cI cZ v) (wr := tw_w qo aC cI cL cZ z) (w1 := tm_wM aM cI cZ) XM h [19, 20, 21, 22, 23, 24, 25, 26, 27, 28, 29, 30, 31, 32, 33, 34, 35, 36] [0, 1, 2, 3, 4, 5, 6, 7, 8, 9, 10, 11, 12, 13, 14, 15, 16, 17, 18] rfl rfl (by decide) (by decide)
    (tm_rV (q0 := 0) (ci := 5) XM hcut (hM _) hk hlink rfl rfl hq hrc hrs hR hn hl hst hW hdg ⟨hc, hs⟩) (fun v' H1 locs1 hp h1 => kk v' H1 locs1 hp h1)
/-- the class is called as it is -/
theorem lq_cC {r : FieldType} {post : Int32 → tm_SC → Prop} (C : lq_X l p m c s b meth D A cI cL cZ L xs) (h : tm_H D A s (lq_w qo aC aM cI cL cZ z v) H locs)
    (hM : tm_I l y bytes maxL r rm D (tm_yC cI cL cZ) (tm_wC aC cI cL cZ) (.ref (aC 0) :: As) z.1 post) (hk : tm_ki y bytes maxL (some r) n) (hlink : Cond.methodLink "TrimmedMachineLaw" index y ∈ tm_wa) (hq : "TrimmedMachine" = y.cls)
    (hrc : rm.cells = 0) (hrs : rm.slots = 0) (hR : rm.frames + 1 ≤ room_1.frames ∧ 8 + (maxL + 11) + rm.locals ≤ room_1.locals) (hn : As.length = n) (hl : ls.size = 7) (hst : st0 = As.reverse ++ .ref (aC 0) :: rest) (hW : (rest.map fun v => v.category).sum ≤ 8) (hdg : decode code pc = .ok (.invokevirtual index, 3)) (hc : cells ≤ 1075) (hs : slots ≤ 17767)
    (kk : ∀ (r : Int32) (u' : tm_SC) (H1 : Heap) (locs1 : List Loc), post r u' → tm_H D A s (lq_w qo aC aM cI cL cZ (u', z.2) v) H1 locs1 → W p l e room_1 s m #[Value.ref b] below meth c H1 locs1 cells slots Q (F0 m (pc + 3) ls (.int r :: rest))) : W p l e room_1 s m #[Value.ref b] below meth c H locs cells slots Q (F0 m pc ls st0) := by
  have hcut : tm_H D A s (tm_wC aC cI cL cZ z.1) H locs := tm_cut h [1, 2, 3, 4, 5, 6, 7, 8, 9, 10, 11, 12, 13, 14, 15, 16, 17, 18] rfl (by decide) rfl
  refine lq_jI (wc := tm_wC aC cI cL cZ z.1) (wr := (qo, .inl (cL, 1, .inr (.inl z.2))) :: tm_wM aM cI cZ v) (w1 := tm_wC aC cI cL cZ) C.1 h [1, 2, 3, 4, 5, 6, 7, 8, 9, 10, 11, 12, 13, 14, 15, 16, 17, 18] [0, 19, 20, 21, 22, 23, 24, 25, 26, 27, 28, 29, 30, 31, 32, 33, 34, 35, 36] rfl rfl (by decide) (by decide)
    (tm_rV (q0 := 0) (ci := 0) C.1 hcut (hM _) hk hlink rfl rfl hq hrc hrs hR hn hl hst hW hdg ⟨hc, hs⟩) (fun r u' H1 locs1 hp h1 => ?_)
  exact kk r u' H1 locs1 hp (tm_cut h1 [0, 19, 20, 21, 22, 23, 24, 25, 26, 27, 28, 29, 30, 31, 32, 33, 34, 35, 36, 1, 2, 3, 4, 5, 6, 7, 8, 9, 10, 11, 12, 13, 14, 15, 16, 17, 18] rfl (by decide) rfl)
end LQM
end LQR
