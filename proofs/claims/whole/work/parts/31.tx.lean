def tx_strs : List (String × Nat × String) := [("TrimmedMachine", 120, "no room for another expression"), ("TrimmedMachine", 103, "no such variable"), ("TrimmedMachine", 108, "no such expression"), ("TrimmedMachine", 118, "too high"), ("TrimmedMachine", 49, "no such operation"), ("TrimmedMachine", 57, "no such capacity"), ("TrimmedMachine", 63, "no such number of steps"), ("TrimmedMachine$Run", 129, "a variable without a value"), ("TrimmedMachine$Run", 144, "more closures than any capacity"), ("TrimmedMachine$Run", 161, "more frames than any capacity"), ("TrimmedMachine$Run", 221, "a closure in place of an int"), ("TrimmedMachine$Run", 224, "an int in place of a closure"), ("TrimmedMachine$Run", 249, "more space than the capacity"), ("TrimmedMachine", 112, "the run begun last has not ended")]
/-! a method that may throw: if it returns it has made nothing, if it throws it has made the exception alone -/
def tx_Q (Qc : Array Value → State → Outcome → State → Prop) (XC : String → State → State → Prop) (free : Addr → Prop) : Array Value → State → Outcome → State → Prop := fun a st o t =>
  (Qc a st o t ∧ ∃ L, FrameEnd st o t L 0 0 ∧ ∀ q ∈ L, free q.base) ∨ ∃ q, o = .threw q ∧ vx_T XC st q t 1 6 free
def tx_Met (l : Launch) (y : MethodName) (ws : List Cond) (rm : Room) (Pc : Array Value → State → Prop) (Qc : Array Value → State → Outcome → State → Prop) (XC : String → State → State → Prop) (free : Addr → Prop) : Prop :=
  MetFree l y (headSpec ws rm) Pc (fun _ _ _ _ _ => True) (tx_Q Qc XC free)
def tx_MQ (below : List Frame) (Qc : Array Value → State → Outcome → State → Prop) (XC : String → State → State → Prop) (a : Array Value) (s : State) (free : Addr → Prop) : State → Prop := fun t =>
  ∃ o, t.status = .running ∧ Ended t below o ∧ tx_Q Qc XC free a s o t
section TXP
variable {l : Launch} {R : Room} {p : Program} {e : Env} {below : List Frame} {s : State} {sargs : Array Value} {y : MethodName} {len W9 : Nat}
theorem tx_back {ws : List Cond} {rm : Room} {Pc : Array Value → State → Prop} {Qc : Array Value → State → Outcome → State → Prop} {XC : String → State → State → Prop} {free : Addr → Prop} {bytes : ByteArray} {maxL : Nat} {ret : Option FieldType}
    (hM : tx_Met l y ws rm Pc Qc XC free) (hblind : FrameBlind Pc) (hrc : rm.cells = 1) (hrs : rm.slots = 6)
    (hframes : rm.frames + 1 ≤ R.frames) (hlocals : W9 + (maxL + 11) + rm.locals ≤ R.locals)
    (hws : ∀ w ∈ ws, ∀ a' U, s.WarmedH U.vm → w.before a' U = true) (hcode : Cond.code y bytes maxL ret ∈ ws) (hinit : ∀ a' U, s.WarmedH U.vm → (Cond.initialized y.cls).before a' U = true) :
    vx_Back l R p e below s sargs y len W9 (PreOf R 1 6 Pc) (PostOf Qc 0 0 free) (vx_Post XC 1 6 free) := by
  intro m meth c A g ig mk a X hg hsize hdg hW hn hp
  have h1 : (headSpec ws rm).pre.before a A.U = true := atoms_intro fun w hw => hws w hw _ _ X.warmed
  have h2 : (Cond.code y bytes maxL ret).before a A.U = true := hws _ hcode _ _ X.warmed
  have h3 : (Cond.initialized y.cls).before a A.U = true := hinit _ _ X.warmed
  have h4 : A.cells + (headSpec ws rm).room.cells ≤ R.cells := by rw [show (headSpec ws rm).room.cells = 1 from hrc]; exact hp.1
  have h5 : A.slots + (headSpec ws rm).room.slots ≤ R.slots := by rw [show (headSpec ws rm).room.slots = 6 from hrs]; exact hp.2.1
  have hPc : Pc a (A.U.calling g mk a) := hblind _ _ _ _ hp.2.2
  obtain ⟨U, Ls, c0, s0⟩ := A
  dsimp only [Pt.U, Pt.locs, Pt.cells, Pt.slots] at h1 h2 h3 h4 h5 X hn hPc ⊢
  obtain ⟨methY, cY, hmY, hcY, -, hlY, -, -, -, -⟩ := Cond.code_spec hn h2
  obtain ⟨kY, hkY, -⟩ := className_of_methodNamed hn
  have hinitY : kY.init = .initialized := Cond.initialized_spec (findClass_of_methodNamed hn) hkY h3
  have h : At U g.method c below := by rw [hg]; exact X.here
  have hl9 : W9 + (maxL + 11) + (headSpec ws rm).room.locals ≤ R.locals := hlocals
  have happ : (headSpec ws rm).appliesLoose y e.platform (U.calling g mk a) = true :=
    Spec.appliesLoose_calling (g := g) h hdg hn hkY hinitY (X.room_calling (g := g) (R' := (headSpec ws rm).room) hsize hmY hcY hframes (by rw [hlY]; omega) h4 h5) h1
  obtain ⟨mid, hmid⟩ := h.above
  have hfr : (U.setTop g).frames = (.java g :: mid) ++ below := by rw [State.frames_setTop' g h.top, hmid]; rfl
  obtain ⟨o, s₂, hsteps, -, hend, hq⟩ := Steps.callFree hM p X.admits X.cas X.clock (acts := []) hfr happ hPc trivial
  have hq' : tx_Q Qc XC free a (U.calling g mk a) o s₂ := hq
  rw [State.frames_setTop' g h.top] at hend
  obtain ⟨g₀, hg0⟩ := Option.isSome_iff_exists.mp h.top
  obtain ⟨r, hr⟩ := State.topJava?_eq_some.mp hg0
  have hr' : (({ U with heap := s₂.heap, slotsUsed := s₂.slotsUsed } : State).setVm s₂.vm).frames = .java g₀ :: r := hr
  rcases hq' with ⟨hqc, L, hfe, hL⟩ | ⟨q, rfl, E, ce, L, hx, hce, hcv, hcl, hW₂, hsm, hL⟩
  · obtain ⟨⟨v, rfl⟩, hW₂, e2, q2, q3, q4, q5, q6⟩ := id hfe
    have e3 : s₂ = ({ (U.calling g mk a).setFrames s₂.frames with heap := s₂.heap, slotsUsed := s₂.slotsUsed } : State).setVm s₂.vm := by
      have z : s₂ = ({ s₂ with vm := (U.calling g mk a).vm } : State).setVm s₂.vm := rfl
      rw [e2] at z
      exact z
    obtain ⟨c₂, i₂, len₂, hc₂, hd₂, hf₂⟩ := hend
    have hW' : U.WarmedH s₂.vm := hW₂
    have hcc : c₂ = c := by
      have z : s₂.code? g.method = U.code? g.method := by rw [State.code?_eq, State.code?_eq, hW'.alike.method?]
      exact Option.some.inj (hc₂.symm.trans (z.trans h.code))
    subst hcc
    have hlen : len₂ = len := by rw [hdg] at hd₂; cases hd₂; rfl
    subst hlen
    have hs₂ : s₂ = (({ U with heap := s₂.heap, slotsUsed := s₂.slotsUsed } : State).setVm s₂.vm).setTop { g with pc := g.pc + len₂, stack := v.toList ++ g.stack } := by
      refine e3.trans ?_
      rw [hf₂, State.calling_eq h.top, State.setFrames_setFrames, State.setTop_of_frames _ hr', hr]
      rfl
    have hsame : U.sameButNew ({ U with heap := s₂.heap, slotsUsed := s₂.slotsUsed } : State) L 0 0 := by
      refine ⟨?_, q2, q3, q4, q5, q6⟩
      obtain ⟨t, ht, -⟩ := State.frames_cons hr
      show ({ U with heap := s₂.heap, slotsUsed := s₂.slotsUsed } : State) = { U.setFrames U.frames with heap := s₂.heap, slotsUsed := s₂.slotsUsed }
      rw [State.setFrames_self ht]
    subst hg
    refine Or.inl ⟨v, ⟨(({ U with heap := s₂.heap, slotsUsed := s₂.slotsUsed } : State).setVm s₂.vm), Ls ++ L, c0 + 0, s0 + 0⟩,
      ⟨X.admits, X.cas, X.clock, X.frames, X.room, X.hears, X.method, X.code, (X.here.setHeapUsed s₂.heap s₂.slotsUsed).setVm hW'.alike, X.tail, State.WarmedH.trans X.warmed hW', X.limits, X.bytes, X.same.trans (hsame.setVm s.vm)⟩,
      ⟨g, mk, s₂, L, rfl, rfl, hqc, rfl, hL, rfl, rfl⟩, ?_⟩
    show Steps p.tables e below _ ((({ U with heap := s₂.heap, slotsUsed := s₂.slotsUsed } : State).setVm s₂.vm).setTop { g with pc := g.pc + len₂, stack := v.toList ++ g.stack })
    rw [← hs₂]
    exact hsteps
  · obtain ⟨e2, q2, q3, q4, q5, q6⟩ := id hsm
    have e3 : s₂ = ({ (U.calling g mk a).setFrames s₂.frames with heap := s₂.heap, slotsUsed := s₂.slotsUsed } : State).setVm s₂.vm := by
      have z : s₂ = ({ s₂ with vm := (U.calling g mk a).vm } : State).setVm s₂.vm := rfl
      rw [e2] at z
      exact z
    have hf₂ : s₂.frames = .throwing q :: .java g :: U.frames.tail := hend
    have hW' : U.WarmedH s₂.vm := hW₂
    have hs₂ : s₂ = ((({ U with heap := s₂.heap, slotsUsed := s₂.slotsUsed } : State).setVm s₂.vm).setTop g).pushFrame (.throwing q) := by
      refine e3.trans ?_
      rw [hf₂, State.calling_eq h.top, State.setFrames_setFrames, State.pushFrame, State.frames_setTop _ hr', State.setTop_of_frames _ hr', State.setFrames_setFrames, hr]
      rfl
    have hsame : U.sameButNew ({ U with heap := s₂.heap, slotsUsed := s₂.slotsUsed } : State) L 1 6 := by
      refine ⟨?_, q2, q3, q4, q5, q6⟩
      obtain ⟨t, ht, -⟩ := State.frames_cons hr
      show ({ U with heap := s₂.heap, slotsUsed := s₂.slotsUsed } : State) = { U.setFrames U.frames with heap := s₂.heap, slotsUsed := s₂.slotsUsed }
      rw [State.setFrames_self ht]
    subst hg
    refine Or.inr ⟨q, ⟨(({ U with heap := s₂.heap, slotsUsed := s₂.slotsUsed } : State).setVm s₂.vm), Ls ++ L, c0 + 1, s0 + 6⟩,
      ⟨X.admits, X.cas, X.clock, X.frames, X.room, X.hears, X.method, X.code, (X.here.setHeapUsed s₂.heap s₂.slotsUsed).setVm hW'.alike, X.tail, State.WarmedH.trans X.warmed hW', X.limits, X.bytes, X.same.trans (hsame.setVm s.vm)⟩,
      ⟨g, mk, s₂, L, E, ce, rfl, rfl, hx, hce, hcv, hcl, rfl, hL, rfl, rfl⟩, ?_⟩
    show Steps p.tables e below _ (((({ U with heap := s₂.heap, slotsUsed := s₂.slotsUsed } : State).setVm s₂.vm).setTop g).pushFrame (.throwing q))
    rw [← hs₂]
    exact hsteps
end TXP
/-- what a throw asks of a start: Throwable's two statics, the texts -/
def tx_S (U : State) : Prop := ∀ q ∈ tx_strs, ∃ a, vk_R q.1 q.2.1 q.2.2 a U
def tx_E (A : Nat → Prop) (U : State) (H : Heap) : Prop := vx_Zq Bundle.tN "UNASSIGNED_STACK" Bundle.steD A U H ∧ vx_Zq Bundle.tN "SUPPRESSED_SENTINEL" Bundle.listD A U H ∧ tx_S U
theorem tx_S.warm {s U : State} (hW : s.WarmedH U.vm) (h : tx_S s) : tx_S U := fun q hq => by
  obtain ⟨a, h1⟩ := h q hq
  exact ⟨a, vk_R.warm hW h1⟩
theorem tx_E.warm {A : Nat → Prop} {s U : State} {H : Heap} (hW : s.WarmedH U.vm) (h : tx_E A s H) : tx_E A U H := ⟨vx_Zq.moved hW.alike h.1, vx_Zq.moved hW.alike h.2.1, h.2.2.warm hW⟩
def tx_Pre (D : va_G) (tys : tm_Y) (w : va_W) (sz : Nat) (U : State) : Prop := tm_Pre D tys w sz U ∧ tx_E (va_A w sz) U U.heap
theorem tx_blind {D : va_G} {tys : tm_Y} {w : va_W} {sz : Nat} {av : List Value} : FrameBlind (va_Pc av (tx_Pre D tys w sz)) := fun a U g mk q => by
  obtain ⟨q0, q1, q2⟩ := q
  exact ⟨q0, (tm_blind a U g mk ⟨q0, q1⟩).2, tx_E.warm (s := U) (State.WarmedH.refl U) q2⟩
def tx_X (D : va_G) (tys : tm_Y) (w : tm_SC → va_W) (A : Nat → Prop) (px : String → tm_SC → Prop) : String → State → State → Prop := fun E st t => ∃ u', px E u' ∧ tm_B D tys A (w u') t ∧ va_F A st t
def tx_V (l : Launch) (y : MethodName) (cc : ByteArray) (n : Nat) (rm : Room) (D : va_G) (tys : tm_Y) (w : tm_SC → va_W) (av : List Value) (u : tm_SC) (post : tm_SC → Prop) (px : String → tm_SC → Prop) : Prop :=
  ∀ sz : Nat, tx_Met l y (Cond.code y cc n none :: tm_wa) rm (va_Pc av (tx_Pre D tys (w u) sz)) (va_Qv post (fun u' t => tm_B D tys (va_A (w u) sz) (w u') t) (va_A (w u) sz)) (tx_X D tys w (va_A (w u) sz) px) (va_A (w u) sz)
def tx_I (l : Launch) (y : MethodName) (cc : ByteArray) (n : Nat) (r : FieldType) (rm : Room) (D : va_G) (tys : tm_Y) (w : tm_SC → va_W) (av : List Value) (u : tm_SC) (post : Int32 → tm_SC → Prop) (px : String → tm_SC → Prop) : Prop :=
  ∀ sz : Nat, tx_Met l y (Cond.code y cc n (some r) :: tm_wa) rm (va_Pc av (tx_Pre D tys (w u) sz)) (va_Qi post (fun u' t => tm_B D tys (va_A (w u) sz) (w u') t) (va_A (w u) sz)) (tx_X D tys w (va_A (w u) sz) px) (va_A (w u) sz)
section TXO
variable {l : Launch} {D : va_G} {tys : tm_Y}
theorem tx_of {y : MethodName} {rm : Room} {cc : ByteArray} {maxL : Nat} {ret : Option FieldType} {av : List Value} {w : va_W} {Qc : (Nat → Prop) → Array Value → State → Outcome → State → Prop} {XC : (Nat → Prop) → String → State → State → Prop}
    (hy : plainName y.cls = true) (hlen : (lg_sl av).length ≤ maxL)
    (body : ∀ p e s m below meth c A ls, tm_Cx p m c cc maxL s av.toArray y.cls meth ret D A tys → tm_H D A s w s.heap [] → lv_has ls maxL (lv_args 0 av) → tx_E A s s.heap → (∀ x ∈ c.exceptionTable.toList, False) →
      W p l e rm s m av.toArray below meth c s.heap [] 0 0 (tx_MQ below (Qc A) (XC A) av.toArray s A) (F0 m 0 ls [])) (sz : Nat) :
    tx_Met l y (Cond.code y cc maxL ret :: tm_wa) rm (va_Pc av (tx_Pre D tys w sz)) (Qc (va_A w sz)) (XC (va_A w sz)) (va_A w sz) := by
  refine MetFree.of_bodyS (code := cc) (maxLocals := maxL) (ret := ret) hy ?_ ?_
  · intro args s m h hn
    obtain ⟨meth, c, h1, h2, h3, h4, h5, h6, -, -⟩ := Cond.code_spec hn (atoms_spec (ws := Cond.code y cc maxL ret :: tm_wa) h _ List.mem_cons_self)
    exact ⟨meth, c, h1, h2, h3, h4, h5, h6⟩
  · intro p e s m args below meth c s₁ B hml hv _
    have hh0 : s₁.heap = s.heap := by rw [B.state]; rfl
    have htab : ∀ x ∈ c.exceptionTable.toList, False := by
      obtain ⟨meth9, c9, h1, h2, -, -, -, -, h7, -⟩ := Cond.code_spec B.named (atoms_spec (ws := Cond.code y cc maxL ret :: tm_wa) B.pre _ List.mem_cons_self)
      cases Option.some.inj (h1.symm.trans B.method)
      cases Option.some.inj (h2.symm.trans (Stand.of_body B).code)
      intro x hx
      rw [Array.isEmpty_iff.mp h7] at hx
      cases hx
    obtain ⟨rfl, ⟨hsz, hP, hK, hD0, hN⟩, hE⟩ := hv
    have hts := atoms_spec (ws := Cond.code y cc maxL ret :: tm_wa) B.pre
    have hown : s.vm.findClass y.cls = some m.cls := findClass_of_methodNamed B.named
    subst hsz
    have hD := hD0.self (sz := s.heap.size)
    generalize hAe : va_A w s.heap.size = A at hD hE ⊢
    have hA : ∀ q : Nat, s.heap.size ≤ q → A q := fun q h => by rw [← hAe]; exact Or.inr h
    have hl := lv_entry av (n := maxL) hlen
    have kk := body p e s m below meth c A _ ⟨⟨B.exec, B.bytes, hml, hown, fun w hw => hts w (List.mem_cons_of_mem _ hw)⟩, B.returns, B.notSynchronized, hK, hA, hN⟩ ⟨hP, hD, va_S.rf⟩ hl hE htab
    rw [← lg_entry_eq] at kk
    obtain ⟨t, a1, o, b1, b2, b3⟩ := kk s₁ hh0 (Stand.of_body B)
    exact ⟨t, o, a1, b1, b2, b3⟩
end TXO
section TXR
variable {p : Program} {l : Launch} {e : Env} {R : Room} {s : State} {m : MethodId} {args : Array Value} {below : List Frame} {meth : Method} {c : Code} {H : Heap} {locs : List Loc} {cells slots : Nat} {Q : State → Prop}
variable {cc : ByteArray} {pc nL : Nat} {ls : Array Slot} {rest st0 : List Value} {D : va_G} {A : Nat → Prop} {tys : tm_Y} {ws : va_W} {own : String} {ret : Option FieldType} {w : tm_SC → va_W} {u : tm_SC} {px : String → tm_SC → Prop} {Qc : Array Value → State → Outcome → State → Prop} {XC : String → State → State → Prop} {free : Addr → Prop}
theorem tx_ret {g : JFrame} (k : W p l e R s m args below meth c H locs cells slots (MQ below Qc args s 0 0 free) g) : W p l e R s m args below meth c H locs cells slots (tx_MQ below Qc XC args s free) g := by
  intro T hT X
  obtain ⟨t, a1, o, b1, b2, b3⟩ := k T hT X
  exact ⟨t, a1, o, b1, b2, Or.inl b3⟩
theorem tx_of_vx {t : State} (h : vx_MQ below (fun _ _ _ _ => False) XC args s 1 6 free t) : tx_MQ below Qc XC args s free t := by
  obtain ⟨o, b1, b2, b3⟩ := h
  exact ⟨o, b1, b2, b3.elim (fun q => q.1.elim) Or.inr⟩
theorem tx_vret {post : tm_SC → Prop} (X : tm_Cx p m c cc nL s args own meth none D A tys) (h : tm_H D A s (w u) H locs) (hp : post u) (hdg : decode cc pc = .ok (.return_, 1)) :
    W p l e R s m args below meth c H locs 0 0 (tx_MQ below (va_Qv post (fun u t => tm_B D tys A (w u) t) A) XC args s A) (F0 m pc ls []) := tx_ret (tm_vret X h hp hdg)
theorem tx_iret {post : Int32 → tm_SC → Prop} {v : Int32} (X : tm_Cx p m c cc nL s args own meth (some .int) D A tys) (h : tm_H D A s (w u) H locs) (hp : post v u) (hdg : decode cc pc = .ok (.ireturn, 1)) :
    W p l e R s m args below meth c H locs 0 0 (tx_MQ below (va_Qi post (fun u t => tm_B D tys A (w u) t) A) XC args s A) (F0 m pc ls [.int v]) := tx_ret (tm_iret X h hp hdg)
theorem tx_zret {post : Int32 → tm_SC → Prop} {v : Int32} (X : tm_Cx p m c cc nL s args own meth (some .boolean) D A tys) (h : tm_H D A s (w u) H locs) (hn : narrow .boolean (.int v) = .int v) (hp : post v u) (hdg : decode cc pc = .ok (.ireturn, 1)) :
    W p l e R s m args below meth c H locs 0 0 (tx_MQ below (va_Qi post (fun u t => tm_B D tys A (w u) t) A) XC args s A) (F0 m pc ls [.int v]) := tx_ret (tm_zret X h hn hp hdg)
/-- the world is still there behind a throw -/
theorem tx_kept (X : tm_Cx p m c cc nL s args own meth ret D A tys) (h : tm_H D A s (w u) H locs) {t : State} (ha : s.vm.Alike t.vm) (hz : H.size ≤ t.heap.size) (hq : ∀ q : Nat, q < H.size → t.heap[q]? = H[q]?) : tm_B D tys A (w u) t ∧ va_F A s t :=
  ⟨⟨h.1.kept (fun k q hk => hq _ (h.1 k q hk).lt), va_K.moved ha X.2.2.2.1, h.2.1⟩, Nat.le_trans h.2.2.1 hz, fun q h1 h2 => (hq q (Nat.lt_of_lt_of_le h1 h.2.2.1)).trans (h.2.2.2.1 q h1 h2)⟩
/-- an exception goes on to the caller -/
theorem tx_out {E : String} {ce : Cell} {q : Addr} (X : tm_Cx p m c cc nL s args own meth ret D A tys) (htab : ∀ x ∈ c.exceptionTable.toList, False) (h : tm_H D A s (w u) H locs) (hce : H[q]? = some ce) (hcv : ce.vm = .none) (hcl : s.vm.findClass E = some ce.cls) (hp : px E u) :
    vx_W p l e R s m args below meth c H locs 1 6 (tx_MQ below Qc (tx_X D tys w A px) args s A) (F0 m pc ls rest) q := by
  intro T hT Y
  obtain ⟨t, a1, b1⟩ := vx_out (Qc := fun _ _ _ _ => False) (XC := tx_X D tys w A px) (free := A) (mc := 1) (ms := 6) (E := E) (fun x hx => (htab x hx).elim) X.2.2.1 hce hcv hcl
    (fun t ht ha => ⟨u, hp, tx_kept X h ha (by rw [ht]; exact Nat.le_refl _) (fun q _ => by rw [ht])⟩) h.2.2.2.2 (Nat.le_refl _) (Nat.le_refl _) T hT Y
  exact ⟨t, a1, tx_of_vx b1⟩
abbrev tx_nm : List String := ["java/lang/RuntimeException", "java/lang/Exception"]
theorem tx_throw {cls text : String} {ik is ic : Nat} (X : tm_Cx p m c cc nL s args own meth ret D A tys) (htab : ∀ x ∈ c.exceptionTable.toList, False) (hE : tx_E A s s.heap) (hl : l.stackTraces = false) (h : tm_H D A s (w u) H locs) (hfit : Bundle.fit cls = true)
    (hk : Cond.classLink own ik cls ∈ tm_wa) (hini : Cond.initialized cls ∈ tm_wa) (hs : (own, is, text) ∈ tx_strs) (hat : ∀ w ∈ vx_atS own ic cls tx_nm, w ∈ tm_wa ∨ w ∈ tm_nw) (hgood : ∀ w ∈ Cond.classLink own ik cls :: Cond.initialized cls :: vx_atS own ic cls tx_nm, vx_ot w = true) (hsz : ls.size = nL)
    (d0 : decode cc pc = .ok (.new ik, 3)) (d3 : decode cc (pc + 3) = .ok (.dup, 1)) (d4 : decode cc (pc + 4) = .ok (.ldc is, 2)) (d6 : decode cc (pc + 6) = .ok (.invokespecial ic, 3)) (d9 : decode cc (pc + 9) = .ok (.athrow, 1))
    (hRf : 5 < R.frames) (hRl : (rest.map fun v => v.category).sum + 82 ≤ R.locals) (hRc : 1 ≤ R.cells) (hRs : 6 ≤ R.slots) (hp : px cls u) :
    W p l e R s m args below meth c H locs 0 0 (tx_MQ below Qc (tx_X D tys w A px) args s A) (F0 m pc ls rest) := by
  have hts := X.1.2.2.2.2
  obtain ⟨sa, hsa⟩ := hE.2.2 _ hs
  intro T hT Y
  obtain ⟨t, a1, b1⟩ := vx_throwS (Qc := fun _ _ _ _ => False) (XC := tx_X D tys w A px) (free := A) (mc := 1) (ms := 6) (cls := cls) (text := text) (names := tx_nm) (ik := ik) (is := is) (ic := ic) (sa := sa) (A := A) X.1.1 X.1.2.1 hl X.1.2.2.2.1 hfit (by decide) (hts _ hk) (hts _ hini) hsa
    (fun w hw => (hat w hw).elim (fun q => hts w q) (fun q => (X.2.2.2.2.2 w q).use (tm_nw_ot q))) hgood hE.1 hE.2.1 h.2.2 (hsz.trans X.1.2.2.1.symm) d0 d3 d4 d6 d9 (fun x hx => (htab x hx).elim) hRf hRl (by omega) (by omega) X.2.2.1
    (fun t ha hz hq => ⟨u, hp, tx_kept X h ha hz hq⟩) h.2.2.2.2 (Nat.le_refl _) (Nat.le_refl _) T hT Y
  exact ⟨t, a1, tx_of_vx b1⟩
theorem tx_pre {av : List Value} (X : tm_Cx p m c cc nL s args own meth ret D A tys) (h : tm_H D A s ws H locs) (hE : tx_E A s s.heap) : ∀ U : State, U.heap = H → s.WarmedH U.vm → va_Pc av (tx_Pre D tys ws H.size) av.toArray U := fun U hU hV => by
  obtain ⟨q0, q1⟩ := (tm_pre (av := av) X h).2 U hU hV
  have hF := tm_fr X h
  have hE2 : tx_E (va_A ws H.size) s H := ⟨(hE.1.kept h.2.2.2.1).narrow hF, (hE.2.1.kept h.2.2.2.1).narrow hF, hE.2.2⟩
  exact ⟨q0, q1, by rw [hU]; exact hE2.warm hV⟩
def tx_Run (p : Program) (l : Launch) (e : Env) (R : Room) (s : State) (m : MethodId) (args : Array Value) (below : List Frame) (meth : Method) (c : Code) (H : Heap) (locs : List Loc) (cells slots : Nat) (g : JFrame) (rest : List Value) (Qa : State → Outcome → State → Prop) (XC : String → State → State → Prop) (free : Addr → Prop) : Prop :=
  ∀ T : State, T.heap = H → Stand p l e R s m args below meth c T locs cells slots →
    (∃ (v : Option Value) (st₀ t T' : State) (L : List Loc), st₀.heap = H ∧ Stand p l e R s m args below meth c T' (locs ++ L) cells slots ∧ (∀ q ∈ L, free q.base) ∧ T'.heap = t.heap ∧ T'.vm = t.vm ∧ Qa st₀ (.returned v) t ∧
      Goes p e below T g T' { g with pc := g.pc + 3, stack := v.toList ++ rest }) ∨
    (∃ (q : Addr) (st₀ t T' : State) (L : List Loc) (E : String) (ce : Cell), st₀.heap = H ∧ Stand p l e R s m args below meth c T' (locs ++ L) (cells + 1) (slots + 6) ∧ (∀ z ∈ L, free z.base) ∧ T'.heap = t.heap ∧ T'.vm = t.vm ∧ XC E st₀ t ∧ t.heap[q]? = some ce ∧ ce.vm = .none ∧ s.vm.findClass E = some ce.cls ∧
      Steps p.tables e below (T.setTop g) ((T'.setTop { g with stack := rest }).pushFrame (.throwing q)))
section TXK
variable {y : MethodName} {host : String} {bytes : ByteArray} {maxL index n : Nat} {rt : Option FieldType} {rm : Room} {b : Addr} {As : List Value} {q0 ci : Nat} {qc : vw_C} {fs : List Value}
theorem tx_bk {av : List Value} (X : tm_Cx p m c cc nL s args own meth ret D A tys) (hM : tx_Met l y (Cond.code y bytes maxL rt :: tm_wa) rm (va_Pc av (tx_Pre D tys ws H.size)) Qc XC free) (hk : tm_kd y bytes maxL rt n) (hrc : rm.cells = 1) (hrs : rm.slots = 6) (hR : rm.frames + 1 ≤ R.frames ∧ 8 + (maxL + 11) + rm.locals ≤ R.locals) :
    vx_Back l R p e below s args y 3 8 (PreOf R 1 6 (va_Pc av (tx_Pre D tys ws H.size))) (PostOf Qc 0 0 free) (vx_Post XC 1 6 free) :=
  tx_back (bytes := bytes) (maxL := maxL) (ret := rt) hM tx_blind hrc hrs hR.1 hR.2 (pay_in X.1.2.2.2.2 (tm_good hk.2.1)) List.mem_cons_self
    (fun a' U hW => word_at hW (Or.inl (by first | rfl | simp [Cond.onTables, Cond.keeps, Cond.steady])) (X.1.2.2.2.2 _ hk.1))
theorem tx_rV (X : tm_Cx p m c cc nL s args own meth ret D A tys) (h : tm_H D A s ws H locs) (hE : tx_E A s s.heap) (hM : tx_Met l y (Cond.code y bytes maxL rt :: tm_wa) rm (va_Pc (.ref b :: As) (tx_Pre D tys ws H.size)) Qc XC free) (hk : tm_ki y bytes maxL rt n) (hlink : Cond.methodLink own index y ∈ tm_wa) (he : ws[q0]? = some (b, .inr (ci, fs))) (hc : tm_cl[ci]? = some qc) (hq : qc.1 = y.cls)
    (hrc : rm.cells = 1) (hrs : rm.slots = 6) (hR : rm.frames + 1 ≤ R.frames ∧ 8 + (maxL + 11) + rm.locals ≤ R.locals) (hn : As.length = n) (hl : ls.size = nL) (hst : st0 = As.reverse ++ .ref b :: rest) (hW : (rest.map fun v => v.category).sum ≤ 8) (hdg : decode cc pc = .ok (.invokevirtual index, 3)) (hcl : cells + 1 ≤ R.cells ∧ slots + 6 ≤ R.slots) :
    tx_Run p l e R s m args below meth c H locs cells slots (F0 m pc ls st0) rest (Qc (Value.ref b :: As).toArray) XC free := by
  have hts := X.1.2.2.2.2
  have hK := tx_bk (e := e) (below := below) X hM hk.1 hrc hrs hR
  have p2 := tx_pre (av := .ref b :: As) X h hE
  have hrv := va_recv X.2.2.2.1 h.1 hc he
  rw [hq] at hrv
  obtain ⟨cellB, hcB, hoB, hclB⟩ := hrv
  intro T hT Y
  rcases vx_callV Y X.1.1 (C := y.cls) (bytes := bytes) (maxL := maxL) (ret := rt) X.1.2.2.2.1 (hts _ hlink) (hts _ hk.2.1) (hts _ hk.2.2) (hts _ hk.1.2.1) ⟨hk.1.2.2.1, hk.1.2.2.2.1⟩ hK (by rw [hT]; exact hcB) hoB hclB (g := F0 m pc ls st0) rfl (hl.trans X.1.2.2.1.symm) (argsL := As) (rest := rest) (tm_len hk.1 hn) hst (by show 2 * 0 + _ ≤ 8; omega) (by rw [X.1.2.1]; exact hdg)
    (fun vm₁ hW₁ => ⟨hcl.1, hcl.2, p2 (T.setVm vm₁) hT hW₁⟩) with ⟨v, vm₁, ⟨U', l2, c2, s2⟩, hW₁, X', ⟨g', mk, t, L, e1, e2, hq, h1, hL, h2, h3⟩, st⟩ | ⟨q, vm₁, ⟨U', l2, c2, s2⟩, hW₁, X', ⟨g', mk, t, L, E, ce, e1, e2, hq, hce, hcv, hcl, h1, hL, h2, h3⟩, st⟩
  · dsimp only [Pt.U, Pt.locs, Pt.cells, Pt.slots] at X' e1 e2 h1 h2 h3 st
    subst h1; subst h2; subst h3
    exact Or.inl ⟨v, (T.setVm vm₁).calling g' mk (Value.ref b :: As).toArray, t, U', L, hT, X', hL, e1, e2, hq, st⟩
  · dsimp only [Pt.U, Pt.locs, Pt.cells, Pt.slots] at X' e1 e2 h1 h2 h3 st hcl
    subst h1; subst h2; subst h3
    exact Or.inr ⟨q, (T.setVm vm₁).calling g' mk (Value.ref b :: As).toArray, t, U', L, E, ce, hT, X', hL, e1, e2, hq, hce, hcv, vx_cls hW₁ hcl, st⟩
end TXK
theorem tx_cV {post : tm_SC → Prop} {aa : Array Value} (X : tm_Cx p m c cc nL s args own meth ret D A tys) (h : tm_H D A s (w u) H locs) (hr : tx_Run p l e R s m args below meth c H locs cells slots (F0 m pc ls st0) rest (va_Qv post (fun u' t => tm_B D tys (va_A (w u) H.size) (w u') t) (va_A (w u) H.size) aa) (tx_X D tys w (va_A (w u) H.size) px) (va_A (w u) H.size))
    (kx : ∀ (E : String) (u' : tm_SC) (q : Addr) (ce : Cell) (H1 : Heap) (locs1 : List Loc), px E u' → tm_H D A s (w u') H1 locs1 → H1[q]? = some ce → ce.vm = .none → s.vm.findClass E = some ce.cls → vx_W p l e R s m args below meth c H1 locs1 (cells + 1) (slots + 6) Q (F0 m pc ls rest) q)
    (kk : ∀ (u' : tm_SC) (H1 : Heap) (locs1 : List Loc), post u' → tm_H D A s (w u') H1 locs1 → W p l e R s m args below meth c H1 locs1 cells slots Q (F0 m (pc + 3) ls rest)) : W p l e R s m args below meth c H locs cells slots Q (F0 m pc ls st0) := by
  have hF := tm_fr X h
  intro T hT Y
  rcases hr T hT Y with ⟨v, st₀, t, T', L, h0, Y', hL, e1, e2, ⟨⟨u', hv, hp, hB⟩, hFr⟩, st⟩ | ⟨q, st₀, t, T', L, E, ce, h0, Y', hL, e1, e2, ⟨u', hp, hB, hFr⟩, hce, hcv, hcl, st⟩
  · cases hv
    obtain ⟨k1, k2, k3⟩ := vx_keep h0 e1 h.2.2 (fun q _ hq => hF q hq) hF hL hFr
    obtain ⟨t2, a1, b1⟩ := kk u' T'.heap (locs ++ L) hp ⟨by rw [e1]; exact hB.1, hB.2.2.weaken (fun _ _ _ hq => hF _ hq), k3⟩ T' rfl Y'
    exact ⟨t2, st t2 a1, b1⟩
  · obtain ⟨k1, k2, k3⟩ := vx_keep h0 e1 h.2.2 (fun q _ hq => hF q hq) hF hL hFr
    obtain ⟨t2, a1, b1⟩ := kx E u' q ce T'.heap (locs ++ L) hp ⟨by rw [e1]; exact hB.1, hB.2.2.weaken (fun _ _ _ hq => hF _ hq), k3⟩ (by rw [e1]; exact hce) hcv hcl T' rfl Y'
    exact ⟨t2, st.trans a1, b1⟩
theorem tx_cI {post : Int32 → tm_SC → Prop} {aa : Array Value} (X : tm_Cx p m c cc nL s args own meth ret D A tys) (h : tm_H D A s (w u) H locs) (hr : tx_Run p l e R s m args below meth c H locs cells slots (F0 m pc ls st0) rest (va_Qi post (fun u' t => tm_B D tys (va_A (w u) H.size) (w u') t) (va_A (w u) H.size) aa) (tx_X D tys w (va_A (w u) H.size) px) (va_A (w u) H.size))
    (kx : ∀ (E : String) (u' : tm_SC) (q : Addr) (ce : Cell) (H1 : Heap) (locs1 : List Loc), px E u' → tm_H D A s (w u') H1 locs1 → H1[q]? = some ce → ce.vm = .none → s.vm.findClass E = some ce.cls → vx_W p l e R s m args below meth c H1 locs1 (cells + 1) (slots + 6) Q (F0 m pc ls rest) q)
    (kk : ∀ (r : Int32) (u' : tm_SC) (H1 : Heap) (locs1 : List Loc), post r u' → tm_H D A s (w u') H1 locs1 → W p l e R s m args below meth c H1 locs1 cells slots Q (F0 m (pc + 3) ls (.int r :: rest))) : W p l e R s m args below meth c H locs cells slots Q (F0 m pc ls st0) := by
  have hF := tm_fr X h
  intro T hT Y
  rcases hr T hT Y with ⟨v, st₀, t, T', L, h0, Y', hL, e1, e2, ⟨⟨r, u', hv, hp, hB⟩, hFr⟩, st⟩ | ⟨q, st₀, t, T', L, E, ce, h0, Y', hL, e1, e2, ⟨u', hp, hB, hFr⟩, hce, hcv, hcl, st⟩
  · cases hv
    obtain ⟨k1, k2, k3⟩ := vx_keep h0 e1 h.2.2 (fun q _ hq => hF q hq) hF hL hFr
    obtain ⟨t2, a1, b1⟩ := kk r u' T'.heap (locs ++ L) hp ⟨by rw [e1]; exact hB.1, hB.2.2.weaken (fun _ _ _ hq => hF _ hq), k3⟩ T' rfl Y'
    exact ⟨t2, st t2 a1, b1⟩
  · obtain ⟨k1, k2, k3⟩ := vx_keep h0 e1 h.2.2 (fun q _ hq => hF q hq) hF hL hFr
    obtain ⟨t2, a1, b1⟩ := kx E u' q ce T'.heap (locs ++ L) hp ⟨by rw [e1]; exact hB.1, hB.2.2.weaken (fun _ _ _ hq => hF _ hq), k3⟩ (by rw [e1]; exact hce) hcv hcl T' rfl Y'
    exact ⟨t2, st.trans a1, b1⟩
theorem tx_cVf {t : tm_SC} {F : Prop} {aa : Array Value} (X : tm_Cx p m c cc nL s args own meth ret D A tys) (h : tm_H D A s (w u) H locs) (hr : tx_Run p l e R s m args below meth c H locs cells slots (F0 m pc ls st0) rest (va_Qv (fun u' => u' = t ∧ F) (fun u' t => tm_B D tys (va_A (w u) H.size) (w u') t) (va_A (w u) H.size) aa) (tx_X D tys w (va_A (w u) H.size) px) (va_A (w u) H.size))
    (kx : ∀ (E : String) (u' : tm_SC) (q : Addr) (ce : Cell) (H1 : Heap) (locs1 : List Loc), px E u' → tm_H D A s (w u') H1 locs1 → H1[q]? = some ce → ce.vm = .none → s.vm.findClass E = some ce.cls → vx_W p l e R s m args below meth c H1 locs1 (cells + 1) (slots + 6) Q (F0 m pc ls rest) q)
    (kk : ∀ (H1 : Heap) (locs1 : List Loc), F → tm_H D A s (w t) H1 locs1 → W p l e R s m args below meth c H1 locs1 cells slots Q (F0 m (pc + 3) ls rest)) : W p l e R s m args below meth c H locs cells slots Q (F0 m pc ls st0) :=
  tx_cV X h hr kx (fun u' H1 locs1 hp h => kk H1 locs1 hp.2 (hp.1 ▸ h))
theorem tx_cIf {v : Int32} {t : tm_SC} {F : Prop} {aa : Array Value} (X : tm_Cx p m c cc nL s args own meth ret D A tys) (h : tm_H D A s (w u) H locs) (hr : tx_Run p l e R s m args below meth c H locs cells slots (F0 m pc ls st0) rest (va_Qi (fun r u' => (r = v ∧ u' = t) ∧ F) (fun u' t => tm_B D tys (va_A (w u) H.size) (w u') t) (va_A (w u) H.size) aa) (tx_X D tys w (va_A (w u) H.size) px) (va_A (w u) H.size))
    (kx : ∀ (E : String) (u' : tm_SC) (q : Addr) (ce : Cell) (H1 : Heap) (locs1 : List Loc), px E u' → tm_H D A s (w u') H1 locs1 → H1[q]? = some ce → ce.vm = .none → s.vm.findClass E = some ce.cls → vx_W p l e R s m args below meth c H1 locs1 (cells + 1) (slots + 6) Q (F0 m pc ls rest) q)
    (kk : ∀ (H1 : Heap) (locs1 : List Loc), F → tm_H D A s (w t) H1 locs1 → W p l e R s m args below meth c H1 locs1 cells slots Q (F0 m (pc + 3) ls (.int v :: rest))) : W p l e R s m args below meth c H locs cells slots Q (F0 m pc ls st0) :=
  tx_cI X h hr kx (fun r u' H1 locs1 hp h => by rw [hp.1.1]; exact kk H1 locs1 hp.2 (hp.1.2 ▸ h))
theorem tx_at {L : List Cond} (h : ∀ w ∈ L, w ∈ tables_1 ∧ (goodWord w = true ∨ tm_isN w = true)) : ∀ w ∈ L, w ∈ tm_wa ∨ w ∈ tm_nw := fun w hw => (h w hw).2.elim (fun q => Or.inl (tm_tb (h w hw).1 q)) (fun q => Or.inr (tm_nin (h w hw).1 q))
end TXR
