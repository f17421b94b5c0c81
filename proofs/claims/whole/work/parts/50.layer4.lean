/-! making: arrays, objects, constructors -/
section TMN
variable {p : Program} {l : Launch} {e : Env} {R : Room} {s : State} {m : MethodId} {args : Array Value} {below : List Frame} {meth : Method} {c : Code} {H : Heap} {locs : List Loc} {cells slots : Nat} {Q : State → Prop}
variable {cc : ByteArray} {pc nL : Nat} {ls : Array Slot} {rest st0 : List Value} {D : va_G} {A : Nat → Prop} {a : Nat} {tys : tm_Y} {ws : va_W} {own : String} {ret : Option FieldType}
theorem tm_newI (X : tm_Cx p m c cc nL s args own meth ret D A tys) (h : tm_H D A s ws H locs) (t0 : Nat) {cA : ClassId} (ht : tys[t0]? = some (cA, .int)) (harr : Cond.arrayClass .int ∈ tm_wa) {n : Int32} (N : Nat) (hn : ¬ n < 0) (hN : n.toNatClampNeg = N) (hbt : N * componentBytes .int ≤ 536870912) (hc : cells + 1 ≤ R.cells) (hs : slots + N ≤ R.slots) (hdg : decode cc pc = .ok (.newarray .int, 2))
    (kk : ∀ (q : Nat) (H1 : Heap), tm_H D A s (ws ++ [(q, .inl (cA, N, .inl (fun _ => 0)))]) H1 locs → W p l e R s m args below meth c H1 locs (cells + 1) (slots + N) Q (F0 m (pc + 2) ls (.ref q :: rest))) : W p l e R s m args below meth c H locs cells slots Q (F0 m pc ls (.int n :: rest)) := by
  refine va_newa (atype := .int) (ty := .int) (a0 := (N, .inl (fun _ => 0))) X.1.1 X.1.2.1 (X.1.2.2.2.2 _ harr) rfl X.2.2.2.1 h.1 h.2.1 h.2.2 X.2.2.2.2.1 (fun _ => rfl) hn hN hbt hc hs hdg (fun q cB H1 hK hP hD hS => ?_)
  have e : cB = cA := Option.some.inj ((va_nm_int (hK.2 tys.length (cB, .int) (by simp)).2).symm.trans (va_nm_int (X.2.2.2.1.2 t0 _ ht).2))
  subst e
  exact kk q H1 ⟨hP, hD, hS⟩
theorem tm_newL (X : tm_Cx p m c cc nL s args own meth ret D A tys) (h : tm_H D A s ws H locs) (t0 : Nat) {cA : ClassId} (ht : tys[t0]? = some (cA, .long)) (harr : Cond.arrayClass .long ∈ tm_wa) {n : Int32} (N : Nat) (hn : ¬ n < 0) (hN : n.toNatClampNeg = N) (hbt : N * componentBytes .long ≤ 536870912) (hc : cells + 1 ≤ R.cells) (hs : slots + N ≤ R.slots) (hdg : decode cc pc = .ok (.newarray .long, 2))
    (kk : ∀ (q : Nat) (H1 : Heap), tm_H D A s (ws ++ [(q, .inl (cA, N, .inr (.inl (fun _ => 0))))]) H1 locs → W p l e R s m args below meth c H1 locs (cells + 1) (slots + N) Q (F0 m (pc + 2) ls (.ref q :: rest))) : W p l e R s m args below meth c H locs cells slots Q (F0 m pc ls (.int n :: rest)) := by
  refine va_newa (atype := .long) (ty := .long) (a0 := (N, .inr (.inl (fun _ => 0)))) X.1.1 X.1.2.1 (X.1.2.2.2.2 _ harr) rfl X.2.2.2.1 h.1 h.2.1 h.2.2 X.2.2.2.2.1 (fun _ => rfl) hn hN hbt hc hs hdg (fun q cB H1 hK hP hD hS => ?_)
  have e : cB = cA := Option.some.inj ((va_nm_long (hK.2 tys.length (cB, .long) (by simp)).2).symm.trans (va_nm_long (X.2.2.2.1.2 t0 _ ht).2))
  subst e
  exact kk q H1 ⟨hP, hD, hS⟩
theorem tm_newZ (X : tm_Cx p m c cc nL s args own meth ret D A tys) (h : tm_H D A s ws H locs) (t0 : Nat) {cA : ClassId} (ht : tys[t0]? = some (cA, .boolean)) (harr : Cond.arrayClass .boolean ∈ tm_wa) {n : Int32} (N : Nat) (hn : ¬ n < 0) (hN : n.toNatClampNeg = N) (hbt : N * componentBytes .boolean ≤ 536870912) (hc : cells + 1 ≤ R.cells) (hs : slots + N ≤ R.slots) (hdg : decode cc pc = .ok (.newarray .boolean, 2))
    (kk : ∀ (q : Nat) (H1 : Heap), tm_H D A s (ws ++ [(q, .inl (cA, N, .inl (fun _ => 0)))]) H1 locs → W p l e R s m args below meth c H1 locs (cells + 1) (slots + N) Q (F0 m (pc + 2) ls (.ref q :: rest))) : W p l e R s m args below meth c H locs cells slots Q (F0 m pc ls (.int n :: rest)) := by
  refine va_newa (atype := .boolean) (ty := .boolean) (a0 := (N, .inl (fun _ => 0))) X.1.1 X.1.2.1 (X.1.2.2.2.2 _ harr) rfl X.2.2.2.1 h.1 h.2.1 h.2.2 X.2.2.2.2.1 (fun _ => rfl) hn hN hbt hc hs hdg (fun q cB H1 hK hP hD hS => ?_)
  have e : cB = cA := Option.some.inj ((va_nm_boolean (hK.2 tys.length (cB, .boolean) (by simp)).2).symm.trans (va_nm_boolean (X.2.2.2.1.2 t0 _ ht).2))
  subst e
  exact kk q H1 ⟨hP, hD, hS⟩
theorem tm_new (X : tm_Cx p m c cc nL s args own meth ret D A tys) (h : tm_H D A s ws H locs) {C : String} {T : u_T} {N ci index : Nat} (hin : ∀ w ∈ u_ws C T N, w ∈ tm_wa) (ty : Nat → FieldType) (hty : ∀ k, k < N → parseFieldDescriptor (T k).2.2.1 = some (ty k)) (hcl : Cond.classLink own index C ∈ tm_wa) (hinst : Cond.instantiable C N ∈ tm_wa) (hini : Cond.initialized C ∈ tm_wa)
    (hc : tm_cl[ci]? = some (C, T, N)) {fs : List Value} (hfs : ∀ j, j < N → defaultValue (ty j) = vp_V fs j) (hcells : cells + 1 ≤ R.cells) (hslots : slots + N ≤ R.slots) (hdg : decode cc pc = .ok (.new index, 3))
    (kk : ∀ (q : Nat) (H1 : Heap), tm_H D A s (ws ++ [(q, .inr (ci, fs))]) H1 locs → W p l e R s m args below meth c H1 locs (cells + 1) (slots + N) Q (F0 m (pc + 3) ls (.ref q :: rest))) : W p l e R s m args below meth c H locs cells slots Q (F0 m pc ls rest) :=
  va_new X.1.1 X.1.2.1 X.1.2.2.2.2 hin ty hty X.1.2.2.2.1 (X.1.2.2.2.2 _ hcl) (X.1.2.2.2.2 _ hinst) (X.1.2.2.2.2 _ hini) X.2.2.2.1 h.1 h.2.1 h.2.2 X.2.2.2.2.1 hc hfs hcells hslots hdg (fun q H1 a1 a2 a3 => kk q H1 ⟨a1, a2, a3⟩)
theorem tm_putF (X : tm_Cx p m c cc nL s args own meth ret D A tys) (h : tm_H D A s ws H locs) (hnm : meth.name = "<init>") {ref C : String} {T : u_T} {N ci index : Nat} (hin : ∀ w ∈ u_ws C T N, w ∈ tm_wa) (ty0 : Nat → FieldType) (hty : ∀ k, k < N → parseFieldDescriptor (T k).2.2.1 = some (ty0 k)) (hn0 : ∀ a, a < N → ∀ b, b < N → a ≠ b → (T a).2.1 ≠ (T b).2.1) (q0 : Nat) {fs : List Value} (he : ws[q0]? = some (a, .inr (ci, fs))) (hc : tm_cl[ci]? = some (C, T, N)) (k : Nat) (hk : k < N) (hlink : Cond.fieldLink own index ref (T k).2.1 (T k).2.2.1 ∈ tm_wa) (hsame : (T k).1 = ref) (hfin : (T k).2.2.2 = true) (hdecl : (T k).1 = own) {v : Value} (hn : narrow (ty0 k) v = v) (hfit : fits (ty0 k) v = true) (hl : k < fs.length) {ws' : va_W} (hw : ws.set q0 (a, .inr (ci, fs.set k v)) = ws') (hdg : decode cc pc = .ok (.putfield index, 3))
    (kk : ∀ (H1 : Heap) (locs1 : List Loc), tm_H D A s ws' H1 locs1 → W p l e R s m args below meth c H1 locs1 cells slots Q (F0 m (pc + 3) ls rest)) : W p l e R s m args below meth c H locs cells slots Q (F0 m pc ls (v :: .ref a :: rest)) := by
  subst hw
  exact va_putF X.1.1 X.1.2.1 X.1.2.2.2.2 hin ty0 hty hn0 X.1.2.2.2.1 X.2.2.2.1 h.1 h.2.1 h.2.2 q0 he hc k hk (X.1.2.2.2.2 _ hlink) (fun x hx => by rw [← hsame]; exact hx) hfin hnm hdecl (hty k hk) hn hfit hl hdg (fun H1 locs1 a1 a2 a3 => kk H1 locs1 ⟨a1, a2, a3⟩)
theorem tm_obj (X : tm_Cx p m c cc nL s args own meth ret D A tys) {idx : Nat} (hlink : Cond.methodLink own idx Lib.objectInit ∈ tm_wa) (hinst : Cond.instanceMethod Lib.objectInit ∈ tm_wa) (hcode : Cond.code Lib.objectInit ⟨#[0xb1]⟩ 1 none ∈ tm_wa) (hl : ls.size = nL) (hd : decode cc pc = .ok (.invokespecial idx, 3)) (hf : 1 ≤ R.frames) (hlo : 2 * 0 + (rest.map fun v => v.category).sum + 12 ≤ R.locals)
    (kk : W p l e R s m args below meth c H locs cells slots Q (F0 m (pc + 3) ls rest)) : W p l e R s m args below meth c H locs cells slots Q (F0 m pc ls (.ref a :: rest)) := by
  refine W.objInit X.1.1 X.1.2.1 X.1.2.2.2.1 (X.1.2.2.2.2 _ hlink) (X.1.2.2.2.2 _ hinst) (X.1.2.2.2.2 _ hcode) (g := F0 m pc ls (.ref a :: rest)) rfl (hl.trans X.1.2.2.1.symm) (rest := rest) rfl hd hf (by first | exact hlo | omega) ?_
  exact kk
theorem tm_vretJ {S : Type} {w1 : S → va_W} (x : S) (X : tm_Cx p m c cc nL s args own meth none D A tys) (h : tm_H D A s (w1 x) H locs) (hdg : decode cc pc = .ok (.return_, 1)) :
    W p l e R s m args below meth c H locs cells slots (MQ below (va_Qv (fun _ : S => True) (fun x t => tm_B D tys A (w1 x) t) A) args s cells slots A) (F0 m pc ls []) :=
  W.vret X.1.1 X.1.2.1 X.2.1 (fun t ht hW => ⟨⟨x, rfl, trivial, by rw [ht]; exact h.1, va_K.moved hW.alike X.2.2.2.1, h.2.1⟩, h.2.2.F ht⟩) h.2.2.2.2 hdg X.2.2.1
section TMJ
variable {y : MethodName} {host : String} {bytes : ByteArray} {maxL index n mc ms : Nat} {rm : Room} {b : Addr} {As : List Value} {S : Type} {post : S → Prop} {w1 : S → va_W} {wc wr : va_W}
/-- behind a constructor: what it made stands beside the rest -/
theorem tm_jn {aa : Array Value} (X : tm_Cx p m c cc nL s args own meth ret D A tys) (h : tm_H D A s ws H locs) (isC isR : List Nat) (hC : isC.map (fun i => ws[i]?) = wc.map some) (hR : isR.map (fun i => ws[i]?) = wr.map some) (hn : va_nd isR = true) (hdis : ∀ i ∈ isR, i ∉ isC)
    (hr : va_Run p l e R s m args below meth c H locs cells slots mc ms (F0 m pc ls st0) rest (va_Qv post (fun x t => tm_B D tys (va_A wc H.size) (w1 x) t) (va_A wc H.size) aa) (va_A wc H.size))
    (kk : ∀ (x : S) (H1 : Heap) (locs1 : List Loc), post x → tm_H D A s (wr ++ w1 x) H1 locs1 → W p l e R s m args below meth c H1 locs1 (cells + mc) (slots + ms) Q (F0 m (pc + 3) ls rest)) : W p l e R s m args below meth c H locs cells slots Q (F0 m pc ls st0) := by
  have hF := va_free h.2.1 h.2.2 X.2.2.2.2.1 isC hC
  refine va_callv hr h.2.2 (fun q _ hq => hF q hq) hF (fun x t H1 locs1 ht _ hp hB _ hk hS => ?_)
  obtain ⟨hP, hD⟩ := va_join h.1 h.2.1 isC isR hC hR hn hdis hk hF (by rw [← ht]; exact hB.1) hB.2.2
  exact kk x H1 locs1 hp ⟨hP, hD, hS⟩
theorem tm_cut (h : tm_H D A s ws H locs) (isC : List Nat) (h1 : isC.filterMap (fun i => ws[i]?) = wc) (hn : va_nd isC = true) (hC : isC.map (fun i => ws[i]?) = wc.map some) : tm_H D A s wc H locs := ⟨h.1.sub isC h1, h.2.1.sub isC hn hC, h.2.2⟩
theorem tm_rIN {Qc : Array Value → State → Outcome → State → Prop} {free : Addr → Prop} (X : tm_Cx p m c cc nL s args own meth ret D A tys) (h : tm_H D A s wc H locs) (hM : Met l y (Cond.code y bytes maxL none :: tm_wa) rm (va_Pc (.ref b :: As) (tm_Pre D tys wc H.size)) Qc mc ms free) (hk : tm_kd y bytes maxL none n) (hin : Cond.instanceMethod y ∈ tm_wa) (hnm : y.name = "<init>") (hlink : Cond.methodLinkNest own index y host ∈ tm_nw)
    (hrc : rm.cells = mc) (hrs : rm.slots = ms) (hR : rm.frames + 1 ≤ R.frames ∧ 8 + (maxL + 11) + rm.locals ≤ R.locals) (hn : As.length = n) (hl : ls.size = nL) (hst : st0 = As.reverse ++ .ref b :: rest) (hW : (rest.map fun v => v.category).sum ≤ 8) (hdg : decode cc pc = .ok (.invokespecial index, 3)) (hcl : cells + mc ≤ R.cells ∧ slots + ms ≤ R.slots) :
    va_Run p l e R s m args below meth c H locs cells slots mc ms (F0 m pc ls st0) rest (Qc (Value.ref b :: As).toArray) free := by
  have hts := X.1.2.2.2.2
  obtain ⟨k1, k2, k3⟩ := hk
  obtain ⟨p1, p2⟩ := tm_pre (av := .ref b :: As) X h
  exact va_runIN X.1 hM ⟨va_cnB n hts (tm_good k2) rfl hrc hrs (X.2.2.2.2.2 _ hlink) (hts _ k1) k3 hR, hnm, hts _ hin⟩ ⟨p1, p2⟩ rfl hn hl hst (lv_room hW) hdg hcl
theorem tm_rI {Qc : Array Value → State → Outcome → State → Prop} {free : Addr → Prop} (X : tm_Cx p m c cc nL s args own meth ret D A tys) (h : tm_H D A s wc H locs) (hM : Met l y (Cond.code y bytes maxL none :: tm_wa) rm (va_Pc (.ref b :: As) (tm_Pre D tys wc H.size)) Qc mc ms free) (hk : tm_kd y bytes maxL none n) (hin : Cond.instanceMethod y ∈ tm_wa) (hnm : y.name = "<init>") (hlink : Cond.methodLink own index y ∈ tm_wa)
    (hrc : rm.cells = mc) (hrs : rm.slots = ms) (hR : rm.frames + 1 ≤ R.frames ∧ 8 + (maxL + 11) + rm.locals ≤ R.locals) (hn : As.length = n) (hl : ls.size = nL) (hst : st0 = As.reverse ++ .ref b :: rest) (hW : (rest.map fun v => v.category).sum ≤ 8) (hdg : decode cc pc = .ok (.invokespecial index, 3)) (hcl : cells + mc ≤ R.cells ∧ slots + ms ≤ R.slots) :
    va_Run p l e R s m args below meth c H locs cells slots mc ms (F0 m pc ls st0) rest (Qc (Value.ref b :: As).toArray) free := by
  have hts := X.1.2.2.2.2
  obtain ⟨k1, k2, k3⟩ := hk
  obtain ⟨p1, p2⟩ := tm_pre (av := .ref b :: As) X h
  exact va_runI X.1 hM (cwI n hts (tm_good k2) rfl hrc hrs (hts _ k1) (hts _ hlink) (hts _ hin) hnm k3 hR) ⟨p1, p2⟩ rfl hn hl hst (lv_room hW) hdg hcl
end TMJ
end TMN
