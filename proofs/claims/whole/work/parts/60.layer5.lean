/-! the law's wrappers: methods with handlers over the class's world and the cell 'out' -/
def tw_nc : List (String × String) := [("java/lang/IllegalArgumentException", "java/lang/IllegalStateException"), ("java/lang/IllegalArgumentException", "java/lang/UnsupportedOperationException"), ("java/lang/IllegalArgumentException", "java/util/NoSuchElementException"), ("java/lang/IllegalStateException", "java/lang/IllegalArgumentException"), ("java/lang/IllegalStateException", "java/lang/UnsupportedOperationException"), ("java/lang/IllegalStateException", "java/util/NoSuchElementException"), ("java/lang/UnsupportedOperationException", "java/lang/IllegalArgumentException"), ("java/lang/UnsupportedOperationException", "java/lang/IllegalStateException"), ("java/lang/UnsupportedOperationException", "java/util/NoSuchElementException"), ("java/util/NoSuchElementException", "java/lang/IllegalArgumentException"), ("java/util/NoSuchElementException", "java/lang/IllegalStateException"), ("java/util/NoSuchElementException", "java/lang/UnsupportedOperationException")]
def tw_N (U : State) : Prop := ∀ q ∈ tw_nc, va_Nc q.1 q.2 U
theorem tw_N.moved {u U : State} (hvm : u.vm.Alike U.vm) (h : tw_N u) : tw_N U := fun q hq => (h q hq).moved hvm
def tw_Pre (D : va_G) (tys : tm_Y) (w : va_W) (sz : Nat) (U : State) : Prop := tx_Pre D tys w sz U ∧ tw_N U
theorem tw_blind {D : va_G} {tys : tm_Y} {w : va_W} {sz : Nat} {av : List Value} : FrameBlind (va_Pc av (tw_Pre D tys w sz)) := fun a U g mk q => by
  obtain ⟨q0, q1, q2⟩ := q
  exact ⟨q0, (tx_blind a U g mk ⟨q0, q1⟩).2, tw_N.moved (u := U) (U := U.calling g mk a) (Vm.Alike.refl U.vm) q2⟩
abbrev tw_S : Type := tm_SC × (Nat → Int64)
def tw_w (qo : Nat) (ad : Nat → Nat) (cI cL cZ : ClassId) (z : tw_S) : va_W := (qo, .inl (cL, 1, .inr (.inl z.2))) :: tm_wC ad cI cL cZ z.1
section TWO
variable {l : Launch} {D : va_G} {tys : tm_Y}
theorem tw_of {y : MethodName} {rm : Room} {cc : ByteArray} {maxL mc ms : Nat} {ret : Option FieldType} {hh : List (Nat × Nat × Nat × Nat)} {av : List Value} {w : va_W} {Qc : (Nat → Prop) → Array Value → State → Outcome → State → Prop}
    (hy : plainName y.cls = true) (hlen : (lg_sl av).length ≤ maxL)
    (body : ∀ p e s m below meth c A ls, tm_Cx p m c cc maxL s av.toArray y.cls meth ret D A tys → tm_H D A s w s.heap [] → lv_has ls maxL (lv_args 0 av) → tx_E A s s.heap → tw_N s → c.exceptionTable.toList = tableOf hh →
      W p l e rm s m av.toArray below meth c s.heap [] 0 0 (MQ below (Qc A) av.toArray s mc ms A) (F0 m 0 ls [])) (sz : Nat) :
    Met l y (Cond.codeWith y cc maxL ret hh :: tm_wa) rm (va_Pc av (tw_Pre D tys w sz)) (Qc (va_A w sz)) mc ms (va_A w sz) := by
  refine MetFree.of_bodyS (code := cc) (maxLocals := maxL) (ret := ret) hy ?_ ?_
  · intro args s m h hn
    obtain ⟨m9, meth, c, hn9, h1, h2, h3, h4, -, h5, h6, -⟩ := Cond.codeWith_spec (atoms_spec (ws := Cond.codeWith y cc maxL ret hh :: tm_wa) h _ List.mem_cons_self)
    cases hn.symm.trans hn9
    exact ⟨meth, c, h1, h2, h3, h4, h5, h6⟩
  · intro p e s m args below meth c s₁ B hml hv _
    have hh0 : s₁.heap = s.heap := by rw [B.state]; rfl
    have hts := atoms_spec (ws := Cond.codeWith y cc maxL ret hh :: tm_wa) B.pre
    have htab : c.exceptionTable.toList = tableOf hh := vx_table (x := y) B (hts _ List.mem_cons_self)
    obtain ⟨rfl, ⟨⟨hsz, hP, hK, hD0, hN⟩, hE⟩, hW⟩ := hv
    have hown : s.vm.findClass y.cls = some m.cls := findClass_of_methodNamed B.named
    subst hsz
    have hD := hD0.self (sz := s.heap.size)
    generalize hAe : va_A w s.heap.size = A at hD hE ⊢
    have hA : ∀ q : Nat, s.heap.size ≤ q → A q := fun q h => by rw [← hAe]; exact Or.inr h
    have hl := lv_entry av (n := maxL) hlen
    have kk := body p e s m below meth c A _ ⟨⟨B.exec, B.bytes, hml, hown, fun w hw => hts w (List.mem_cons_of_mem _ hw)⟩, B.returns, B.notSynchronized, hK, hA, hN⟩ ⟨hP, hD, va_S.rf⟩ hl hE hW htab
    rw [← lg_entry_eq] at kk
    obtain ⟨t, a1, o, b1, b2, b3⟩ := kk s₁ hh0 (Stand.of_body B)
    exact ⟨t, o, a1, b1, b2, b3⟩
end TWO
section TWR
variable {p : Program} {l : Launch} {e : Env} {R : Room} {s : State} {m : MethodId} {args : Array Value} {below : List Frame} {meth : Method} {c : Code} {H : Heap} {locs : List Loc} {cells slots : Nat} {Q : State → Prop}
variable {cc : ByteArray} {pc nL : Nat} {ls : Array Slot} {rest st0 : List Value} {D : va_G} {A : Nat → Prop} {tys : tm_Y} {ws wc wr : va_W} {own : String} {ret : Option FieldType} {w : tm_SC → va_W} {px : String → tm_SC → Prop}
theorem tx_jI {post : Int32 → tm_SC → Prop} {aa : Array Value} (X : tm_Cx p m c cc nL s args own meth ret D A tys) (h : tm_H D A s ws H locs) (isC isR : List Nat) (hC : isC.map (fun i => ws[i]?) = wc.map some) (hR : isR.map (fun i => ws[i]?) = wr.map some) (hn : va_nd isR = true) (hdis : ∀ i ∈ isR, i ∉ isC)
    (hr : tx_Run p l e R s m args below meth c H locs cells slots (F0 m pc ls st0) rest (va_Qi post (fun u' t => tm_B D tys (va_A wc H.size) (w u') t) (va_A wc H.size) aa) (tx_X D tys w (va_A wc H.size) px) (va_A wc H.size))
    (kx : ∀ (E : String) (u' : tm_SC) (q : Addr) (ce : Cell) (H1 : Heap) (locs1 : List Loc), px E u' → tm_H D A s (wr ++ w u') H1 locs1 → H1[q]? = some ce → ce.vm = .none → s.vm.findClass E = some ce.cls → vx_W p l e R s m args below meth c H1 locs1 (cells + 1) (slots + 6) Q (F0 m pc ls rest) q)
    (kk : ∀ (r : Int32) (u' : tm_SC) (H1 : Heap) (locs1 : List Loc), post r u' → tm_H D A s (wr ++ w u') H1 locs1 → W p l e R s m args below meth c H1 locs1 cells slots Q (F0 m (pc + 3) ls (.int r :: rest))) : W p l e R s m args below meth c H locs cells slots Q (F0 m pc ls st0) := by
  have hF := va_free h.2.1 h.2.2 X.2.2.2.2.1 isC hC
  intro T hT Y
  rcases hr T hT Y with ⟨v, st₀, t, T', L, h0, Y', hL, e1, e2, ⟨⟨r, u', hv, hp, hB⟩, hFr⟩, st⟩ | ⟨q, st₀, t, T', L, E, ce, h0, Y', hL, e1, e2, ⟨u', hp, hB, hFr⟩, hce, hcv, hcl, st⟩
  · cases hv
    obtain ⟨k1, k2, k3⟩ := vx_keep h0 e1 h.2.2 (fun q _ hq => hF q hq) hF hL hFr
    obtain ⟨hP, hD⟩ := va_join h.1 h.2.1 isC isR hC hR hn hdis k2 hF (by rw [e1]; exact hB.1) hB.2.2
    obtain ⟨t2, a1, b1⟩ := kk r u' T'.heap (locs ++ L) hp ⟨hP, hD, k3⟩ T' rfl Y'
    exact ⟨t2, st t2 a1, b1⟩
  · obtain ⟨k1, k2, k3⟩ := vx_keep h0 e1 h.2.2 (fun q _ hq => hF q hq) hF hL hFr
    obtain ⟨hP, hD⟩ := va_join h.1 h.2.1 isC isR hC hR hn hdis k2 hF (by rw [e1]; exact hB.1) hB.2.2
    obtain ⟨t2, a1, b1⟩ := kx E u' q ce T'.heap (locs ++ L) hp ⟨hP, hD, k3⟩ (by rw [e1]; exact hce) hcv hcl T' rfl Y'
    exact ⟨t2, st.trans a1, b1⟩
theorem tx_jV {post : tm_SC → Prop} {aa : Array Value} (X : tm_Cx p m c cc nL s args own meth ret D A tys) (h : tm_H D A s ws H locs) (isC isR : List Nat) (hC : isC.map (fun i => ws[i]?) = wc.map some) (hR : isR.map (fun i => ws[i]?) = wr.map some) (hn : va_nd isR = true) (hdis : ∀ i ∈ isR, i ∉ isC)
    (hr : tx_Run p l e R s m args below meth c H locs cells slots (F0 m pc ls st0) rest (va_Qv post (fun u' t => tm_B D tys (va_A wc H.size) (w u') t) (va_A wc H.size) aa) (tx_X D tys w (va_A wc H.size) px) (va_A wc H.size))
    (kx : ∀ (E : String) (u' : tm_SC) (q : Addr) (ce : Cell) (H1 : Heap) (locs1 : List Loc), px E u' → tm_H D A s (wr ++ w u') H1 locs1 → H1[q]? = some ce → ce.vm = .none → s.vm.findClass E = some ce.cls → vx_W p l e R s m args below meth c H1 locs1 (cells + 1) (slots + 6) Q (F0 m pc ls rest) q)
    (kk : ∀ (u' : tm_SC) (H1 : Heap) (locs1 : List Loc), post u' → tm_H D A s (wr ++ w u') H1 locs1 → W p l e R s m args below meth c H1 locs1 cells slots Q (F0 m (pc + 3) ls rest)) : W p l e R s m args below meth c H locs cells slots Q (F0 m pc ls st0) := by
  have hF := va_free h.2.1 h.2.2 X.2.2.2.2.1 isC hC
  intro T hT Y
  rcases hr T hT Y with ⟨v, st₀, t, T', L, h0, Y', hL, e1, e2, ⟨⟨u', hv, hp, hB⟩, hFr⟩, st⟩ | ⟨q, st₀, t, T', L, E, ce, h0, Y', hL, e1, e2, ⟨u', hp, hB, hFr⟩, hce, hcv, hcl, st⟩
  · cases hv
    obtain ⟨k1, k2, k3⟩ := vx_keep h0 e1 h.2.2 (fun q _ hq => hF q hq) hF hL hFr
    obtain ⟨hP, hD⟩ := va_join h.1 h.2.1 isC isR hC hR hn hdis k2 hF (by rw [e1]; exact hB.1) hB.2.2
    obtain ⟨t2, a1, b1⟩ := kk u' T'.heap (locs ++ L) hp ⟨hP, hD, k3⟩ T' rfl Y'
    exact ⟨t2, st t2 a1, b1⟩
  · obtain ⟨k1, k2, k3⟩ := vx_keep h0 e1 h.2.2 (fun q _ hq => hF q hq) hF hL hFr
    obtain ⟨hP, hD⟩ := va_join h.1 h.2.1 isC isR hC hR hn hdis k2 hF (by rw [e1]; exact hB.1) hB.2.2
    obtain ⟨t2, a1, b1⟩ := kx E u' q ce T'.heap (locs ++ L) hp ⟨hP, hD, k3⟩ (by rw [e1]; exact hce) hcv hcl T' rfl Y'
    exact ⟨t2, st.trans a1, b1⟩
/-- caught by the row at place k of the table; the rows ahead name classes that it isn't of -/
theorem tw_catch {E : String} {ce : Cell} {q : Addr} (X : tm_Cx p m c cc nL s args own meth ret D A tys) (hN : tw_N s) {hh pre suf : List (Nat × Nat × Nat × Nat)} {x : Nat × Nat × Nat × Nat} (htab : c.exceptionTable.toList = tableOf hh) (hsp : hh = pre ++ x :: suf)
    (hpass : ∀ z ∈ pre, z.2.2.2 ≠ 0 ∧ ∃ nm : String, Cond.classLink own z.2.2.2 nm ∈ tm_wa ∧ (E, nm) ∈ tw_nc) (h1 : x.1 ≤ pc) (h2 : pc < x.2.1) (h0 : x.2.2.2 ≠ 0) (hlink : Cond.classLink own x.2.2.2 E ∈ tm_wa) (hcast : Cond.castable E E ∈ tm_nw) (hcell : H[q]? = some ce) (hv : ce.vm = .none) (hcl : s.vm.findClass E = some ce.cls)
    (kk : W p l e R s m args below meth c H locs cells slots Q (F0 m x.2.2.1 ls [.ref q])) : vx_W p l e R s m args below meth c H locs cells slots Q (F0 m pc ls rest) q := by
  have hts := X.1.2.2.2.2
  refine vx_catch (own := own) (name := E) X.1.2.2.2.1 (tableOf pre) ⟨x.1, x.2.1, x.2.2.1, x.2.2.2⟩ (tableOf suf) (by rw [htab, hsp]; simp [tableOf]) (fun z hz => ?_) ?_ h0 (hts _ hlink) ((X.2.2.2.2.2 _ hcast).use rfl) hcell hv hcl kk
  · obtain ⟨y, hy, rfl⟩ := List.mem_map.mp hz
    obtain ⟨a1, nm, a2, a3⟩ := hpass y hy
    exact Or.inr ⟨a1, nm, hts _ a2, hN _ a3⟩
  · simp [covers, h1, h2]
theorem tw_iret {S : Type} {post : Int32 → S → Prop} {w1 : S → va_W} {v : Int32} (x : S) (X : tm_Cx p m c cc nL s args own meth (some .int) D A tys) (h : tm_H D A s (w1 x) H locs) (hp : post v x) (hdg : decode cc pc = .ok (.ireturn, 1)) :
    W p l e R s m args below meth c H locs cells slots (MQ below (va_Qi post (fun x t => tm_B D tys A (w1 x) t) A) args s cells slots A) (F0 m pc ls [.int v]) :=
  W.iret X.1.1 X.1.2.1 X.2.1 (fun t ht hW => ⟨⟨v, x, rfl, hp, by rw [ht]; exact h.1, va_K.moved hW.alike X.2.2.2.1, h.2.1⟩, h.2.2.F ht⟩) h.2.2.2.2 hdg X.2.2.1
end TWR
