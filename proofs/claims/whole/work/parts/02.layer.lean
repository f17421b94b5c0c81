/-! the layer: one world a side, one state, one row a call -/
def tm_wa : List Cond := lw_tbl.filter goodWord
theorem tm_in {w : Cond} (h : w ∈ lw_tbl) (g : goodWord w = true) : w ∈ tm_wa := List.mem_filter.mpr ⟨h, g⟩
theorem tm_tb {w : Cond} (h : w ∈ tables_1) (g : goodWord w = true) : w ∈ tm_wa := tm_in (List.mem_append_right _ h) g
theorem tm_sel {y : MethodName} {n : Nat} (h : (y, n) ∈ lw_privs) : Cond.selects y.cls y y ∈ tm_wa := tm_in (List.mem_append_left _ (List.mem_map.mpr ⟨(y, n), h, rfl⟩)) rfl
theorem tm_good {y : MethodName} {cc : ByteArray} {n : Nat} {r : Option FieldType} (h : Cond.code y cc n r ∈ tm_wa) : GoodIn tm_wa (Cond.code y cc n r :: tm_wa) := fun w hw => by
  have hm : w ∈ tm_wa := by
    rcases List.mem_cons.mp hw with e | e
    · rw [e]; exact h
    · exact e
  exact ⟨hm, good_of_word (List.mem_filter.mp hm).2⟩
/-- scalars, int arrays by number, the one array of longs -/
abbrev tm_SC : Type := (Nat → Int32) × (Nat → Nat → Int32) × (Nat → Int64)
def tm_sf (u : tm_SC) (k : Nat) (x : Int32) : tm_SC := (upd u.1 k x, u.2.1, u.2.2)
def tm_sa (u : tm_SC) (a i : Nat) (x : Int32) : tm_SC := (u.1, va_up u.2.1 a (upd (u.2.1 a) i x), u.2.2)
def tm_sl (u : tm_SC) (i : Nat) (x : Int64) : tm_SC := (u.1, u.2.1, vp_updL u.2.2 i x)
def tm_sv (u : tm_SC) (v : Nat → Int64) : tm_SC := (u.1, u.2.1, v)
abbrev tm_Y : Type := List (ClassId × FieldType)
def tm_isN : Cond → Bool
  | .fieldLinkNest .. => true
  | .methodLinkNest .. => true
  | .castable .. => true
  | .declares .. => true
  | _ => false
def tm_nw : List Cond := tables_1.filter tm_isN
theorem tm_nin {w : Cond} (h : w ∈ tables_1) (g : tm_isN w = true) : w ∈ tm_nw := List.mem_filter.mpr ⟨h, g⟩
theorem tm_nw_ot {w : Cond} (h : w ∈ tm_nw) : w.onTables = true := by
  have h2 := (List.mem_filter.mp h).2
  cases w with
  | fieldLinkNest a i b n d h => rfl
  | methodLinkNest a i x h => rfl
  | castable a b => rfl
  | declares a => rfl
  | _ => exact absurd h2 (by simp [tm_isN])
def tm_N (U : State) : Prop := ∀ w ∈ tm_nw, va_Nw w U
theorem tm_N.warm {s U : State} (hW : s.WarmedH U.vm) (h : tm_N s) : tm_N U := fun w hw => by
  have h1 := h w hw
  have h2 := (List.mem_filter.mp hw).2
  cases w with
  | fieldLinkNest a i b n d h => exact va_Nw.warmF hW h1
  | methodLinkNest a i x h => exact va_Nw.warmM hW h1
  | castable a b => exact va_Nw.warmC hW h1
  | declares a => exact va_Nw.warmD hW h1
  | _ => exact absurd h2 (by simp [tm_isN])
theorem tm_N.same {s U : State} (e : s.vm = U.vm) (h : tm_N s) : tm_N U := fun w hw => by
  have h1 := h w hw
  have h2 := (List.mem_filter.mp hw).2
  cases w with
  | fieldLinkNest a i b n d h => exact va_Nw.same rfl e h1
  | methodLinkNest a i x h => exact va_Nw.same rfl e h1
  | castable a b => exact va_Nw.same rfl e h1
  | declares a => exact va_Nw.same rfl e h1
  | _ => exact absurd h2 (by simp [tm_isN])
def tm_Pre (D : va_G) (tys : tm_Y) (w : va_W) (sz : Nat) (U : State) : Prop := U.heap.size = sz ∧ va_P D tm_cl w U.heap ∧ va_K D tm_cl tys U ∧ va_D (fun _ => True) w ∧ tm_N U
def tm_B (D : va_G) (tys : tm_Y) (A : Nat → Prop) (w : va_W) (t : State) : Prop := va_P D tm_cl w t.heap ∧ va_K D tm_cl tys t ∧ va_D A w
def tm_H (D : va_G) (A : Nat → Prop) (s : State) (ws : va_W) (H : Heap) (locs : List Loc) : Prop := va_P D tm_cl ws H ∧ va_D A ws ∧ va_S A s.heap H locs
def tm_Cx (p : Program) (m : MethodId) (c : Code) (cc : ByteArray) (nL : Nat) (s : State) (args : Array Value) (own : String) (meth : Method) (ret : Option FieldType) (D : va_G) (A : Nat → Prop) (tys : tm_Y) : Prop :=
  CallFix p m c cc nL s args tm_wa own ∧ meth.sig.returnType = ret ∧ meth.locks = false ∧ va_K D tm_cl tys s ∧ (∀ q : Nat, s.heap.size ≤ q → A q) ∧ tm_N s
/-- contracts: void, int, long -/
def tm_V (l : Launch) (y : MethodName) (cc : ByteArray) (n : Nat) (rm : Room) (D : va_G) (tys : tm_Y) (w : tm_SC → va_W) (av : List Value) (u : tm_SC) (post : tm_SC → Prop) : Prop :=
  ∀ sz : Nat, Met l y (Cond.code y cc n none :: tm_wa) rm (va_Pc av (tm_Pre D tys (w u) sz)) (va_Qv post (fun u' t => tm_B D tys (va_A (w u) sz) (w u') t) (va_A (w u) sz)) 0 0 (va_A (w u) sz)
def tm_I (l : Launch) (y : MethodName) (cc : ByteArray) (n : Nat) (r : FieldType) (rm : Room) (D : va_G) (tys : tm_Y) (w : tm_SC → va_W) (av : List Value) (u : tm_SC) (post : Int32 → tm_SC → Prop) : Prop :=
  ∀ sz : Nat, Met l y (Cond.code y cc n (some r) :: tm_wa) rm (va_Pc av (tm_Pre D tys (w u) sz)) (va_Qi post (fun u' t => tm_B D tys (va_A (w u) sz) (w u') t) (va_A (w u) sz)) 0 0 (va_A (w u) sz)
def tm_L (l : Launch) (y : MethodName) (cc : ByteArray) (n : Nat) (rm : Room) (D : va_G) (tys : tm_Y) (w : tm_SC → va_W) (av : List Value) (u : tm_SC) (post : Int64 → tm_SC → Prop) : Prop :=
  ∀ sz : Nat, Met l y (Cond.code y cc n (some .long) :: tm_wa) rm (va_Pc av (tm_Pre D tys (w u) sz)) (va_Ql post (fun u' t => tm_B D tys (va_A (w u) sz) (w u') t) (va_A (w u) sz)) 0 0 (va_A (w u) sz)
section TMO
variable {l : Launch} {D : va_G} {tys : tm_Y}
theorem tm_of {y : MethodName} {rm : Room} {cc : ByteArray} {maxL mc ms : Nat} {ret : Option FieldType} {av : List Value} {w : va_W} {Qc : (Nat → Prop) → Array Value → State → Outcome → State → Prop}
    (hy : plainName y.cls = true) (hlen : (lg_sl av).length ≤ maxL)
    (body : ∀ p e s m below meth c A ls, tm_Cx p m c cc maxL s av.toArray y.cls meth ret D A tys → tm_H D A s w s.heap [] → lv_has ls maxL (lv_args 0 av) → meth.name = y.name →
      W p l e rm s m av.toArray below meth c s.heap [] 0 0 (MQ below (Qc A) av.toArray s mc ms A) (F0 m 0 ls [])) (sz : Nat) :
    Met l y (Cond.code y cc maxL ret :: tm_wa) rm (va_Pc av (tm_Pre D tys w sz)) (Qc (va_A w sz)) mc ms (va_A w sz) := by
  refine Met.ofW (cc := cc) (maxL := maxL) (ret := ret) hy rfl ?_
  intro p e s m args below meth c s₁ B hml hv
  obtain ⟨rfl, hsz, hP, hK, hD0, hN⟩ := hv
  have hts := atoms_spec (ws := Cond.code y cc maxL ret :: tm_wa) B.pre
  have hown : s.vm.findClass y.cls = some m.cls := findClass_of_methodNamed B.named
  subst hsz
  have hD := hD0.self (sz := s.heap.size)
  generalize hAe : va_A w s.heap.size = A at hD ⊢
  have hA : ∀ q : Nat, s.heap.size ≤ q → A q := fun q h => by rw [← hAe]; exact Or.inr h
  have hl := lv_entry av (n := maxL) hlen
  rw [lg_entry_eq]
  exact body p e s m below meth c A _ ⟨⟨B.exec, B.bytes, hml, hown, fun w hw => hts w (List.mem_cons_of_mem _ hw)⟩, B.returns, B.notSynchronized, hK, hA, hN⟩ ⟨hP, hD, va_S.rf⟩ hl (name_of_methodNamed B.named B.method).1
end TMO
section TML
variable {p : Program} {l : Launch} {e : Env} {R : Room} {s : State} {m : MethodId} {args : Array Value} {below : List Frame} {meth : Method} {c : Code} {H : Heap} {locs : List Loc} {cells slots : Nat} {Q : State → Prop}
variable {cc : ByteArray} {pc nL : Nat} {ls : Array Slot} {rest : List Value} {D : va_G} {A : Nat → Prop} {a : Nat} {tys : tm_Y} {ws : va_W} {own : String} {ret : Option FieldType}
theorem tm_top {x y : Int32} (h : x = y) (k : W p l e R s m args below meth c H locs cells slots Q (F0 m pc ls (.int y :: rest))) : W p l e R s m args below meth c H locs cells slots Q (F0 m pc ls (.int x :: rest)) := by rw [h]; exact k
theorem tm_topl {x y : Int64} (h : x = y) (k : W p l e R s m args below meth c H locs cells slots Q (F0 m pc ls (.long y :: rest))) : W p l e R s m args below meth c H locs cells slots Q (F0 m pc ls (.long x :: rest)) := by rw [h]; exact k
theorem tm_get (X : tm_Cx p m c cc nL s args own meth ret D A tys) (h : tm_H D A s ws H locs) {ref C : String} {T : u_T} {N ci index : Nat} (hin : ∀ w ∈ u_ws C T N, w ∈ tm_wa) (q0 : Nat) {fs : List Value} (he : ws[q0]? = some (a, .inr (ci, fs))) (hc : tm_cl[ci]? = some (C, T, N)) (k : Nat) (hk : k < N) (hlink : Cond.fieldLink own index ref (T k).2.1 (T k).2.2.1 ∈ tm_wa) (hsame : (T k).1 = ref) {v : Value} (hv : fs[k]? = some v) (hdg : decode cc pc = .ok (.getfield index, 3))
    (kk : W p l e R s m args below meth c H locs cells slots Q (F0 m (pc + 3) ls (v :: rest))) : W p l e R s m args below meth c H locs cells slots Q (F0 m pc ls (.ref a :: rest)) :=
  va_get X.1.1 X.1.2.1 X.1.2.2.2.2 hin X.1.2.2.2.1 X.2.2.2.1 h.1 q0 he hc k hk (X.1.2.2.2.2 _ hlink) (fun x hx => by rw [← hsame]; exact hx) hv hdg kk
theorem tm_getN (X : tm_Cx p m c cc nL s args own meth ret D A tys) (h : tm_H D A s ws H locs) {ref C host : String} {T : u_T} {N ci index : Nat} (hin : ∀ w ∈ u_ws C T N, w ∈ tm_wa) (q0 : Nat) {fs : List Value} (he : ws[q0]? = some (a, .inr (ci, fs))) (hc : tm_cl[ci]? = some (C, T, N)) (k : Nat) (hk : k < N) (hlink : Cond.fieldLinkNest own index ref (T k).2.1 (T k).2.2.1 host ∈ tm_nw) (hsame : (T k).1 = ref) {v : Value} (hv : fs[k]? = some v) (hdg : decode cc pc = .ok (.getfield index, 3))
    (kk : W p l e R s m args below meth c H locs cells slots Q (F0 m (pc + 3) ls (v :: rest))) : W p l e R s m args below meth c H locs cells slots Q (F0 m pc ls (.ref a :: rest)) :=
  va_getN X.1.1 X.1.2.1 X.1.2.2.2.2 hin X.1.2.2.2.1 X.2.2.2.1 h.1 q0 he hc k hk ((X.2.2.2.2.2 _ hlink).use rfl) (fun x hx => by rw [← hsame]; exact hx) hv hdg kk
theorem tm_put (X : tm_Cx p m c cc nL s args own meth ret D A tys) (h : tm_H D A s ws H locs) {ref C : String} {T : u_T} {N ci index : Nat} (hin : ∀ w ∈ u_ws C T N, w ∈ tm_wa) (ty0 : Nat → FieldType) (hty : ∀ k, k < N → parseFieldDescriptor (T k).2.2.1 = some (ty0 k)) (hnm : ∀ a, a < N → ∀ b, b < N → a ≠ b → (T a).2.1 ≠ (T b).2.1) (q0 : Nat) {fs : List Value} (he : ws[q0]? = some (a, .inr (ci, fs))) (hc : tm_cl[ci]? = some (C, T, N)) (k : Nat) (hk : k < N) (hlink : Cond.fieldLink own index ref (T k).2.1 (T k).2.2.1 ∈ tm_wa) (hsame : (T k).1 = ref) (hfin : (T k).2.2.2 = false) {v : Value} (hn : narrow (ty0 k) v = v) (hfit : fits (ty0 k) v = true) (hl : k < fs.length) {ws' : va_W} (hw : ws.set q0 (a, .inr (ci, fs.set k v)) = ws') (hdg : decode cc pc = .ok (.putfield index, 3))
    (kk : ∀ (H1 : Heap) (locs1 : List Loc), tm_H D A s ws' H1 locs1 → W p l e R s m args below meth c H1 locs1 cells slots Q (F0 m (pc + 3) ls rest)) : W p l e R s m args below meth c H locs cells slots Q (F0 m pc ls (v :: .ref a :: rest)) := by
  subst hw
  exact va_put X.1.1 X.1.2.1 X.1.2.2.2.2 hin ty0 hty hnm X.1.2.2.2.1 X.2.2.2.1 h.1 h.2.1 h.2.2 q0 he hc k hk (X.1.2.2.2.2 _ hlink) (fun x hx => by rw [← hsame]; exact hx) hfin (hty k hk) hn hfit hl hdg (fun H1 locs1 a1 a2 a3 => kk H1 locs1 ⟨a1, a2, a3⟩)
theorem tm_putN (X : tm_Cx p m c cc nL s args own meth ret D A tys) (h : tm_H D A s ws H locs) {ref C host : String} {T : u_T} {N ci index : Nat} (hin : ∀ w ∈ u_ws C T N, w ∈ tm_wa) (ty0 : Nat → FieldType) (hty : ∀ k, k < N → parseFieldDescriptor (T k).2.2.1 = some (ty0 k)) (hnm : ∀ a, a < N → ∀ b, b < N → a ≠ b → (T a).2.1 ≠ (T b).2.1) (q0 : Nat) {fs : List Value} (he : ws[q0]? = some (a, .inr (ci, fs))) (hc : tm_cl[ci]? = some (C, T, N)) (k : Nat) (hk : k < N) (hlink : Cond.fieldLinkNest own index ref (T k).2.1 (T k).2.2.1 host ∈ tm_nw) (hsame : (T k).1 = ref) (hfin : (T k).2.2.2 = false) {v : Value} (hn : narrow (ty0 k) v = v) (hfit : fits (ty0 k) v = true) (hl : k < fs.length) {ws' : va_W} (hw : ws.set q0 (a, .inr (ci, fs.set k v)) = ws') (hdg : decode cc pc = .ok (.putfield index, 3))
    (kk : ∀ (H1 : Heap) (locs1 : List Loc), tm_H D A s ws' H1 locs1 → W p l e R s m args below meth c H1 locs1 cells slots Q (F0 m (pc + 3) ls rest)) : W p l e R s m args below meth c H locs cells slots Q (F0 m pc ls (v :: .ref a :: rest)) := by
  subst hw
  exact va_putN X.1.1 X.1.2.1 X.1.2.2.2.2 hin ty0 hty hnm X.1.2.2.2.1 X.2.2.2.1 h.1 h.2.1 h.2.2 q0 he hc k hk ((X.2.2.2.2.2 _ hlink).use rfl) (fun x hx => by rw [← hsame]; exact hx) hfin (hty k hk) hn hfit hl hdg (fun H1 locs1 a1 a2 a3 => kk H1 locs1 ⟨a1, a2, a3⟩)
theorem tm_iald (X : tm_Cx p m c cc nL s args own meth ret D A tys) (h : tm_H D A s ws H locs) (q0 t0 : Nat) {cA : ClassId} {n : Nat} {f : Nat → Int32} (ha : ws[q0]? = some (a, .inl (cA, n, .inl f))) (ht : tys[t0]? = some (cA, .int)) {i : Int32} (k : Nat) (hk : k < n) (hi : i = nI k) (hn : n < 2 ^ 31) (hdg : decode cc pc = .ok (.iaload, 1))
    (kk : W p l e R s m args below meth c H locs cells slots Q (F0 m (pc + 1) ls (.int (f k) :: rest))) : W p l e R s m args below meth c H locs cells slots Q (F0 m pc ls (.int i :: .ref a :: rest)) := by
  subst hi
  refine va_iald X.1.1 X.1.2.1 X.2.2.2.1 h.1 q0 t0 ha ht (vp_in_nI hk hn) hdg ?_
  rw [nI_clamp (Nat.lt_trans hk hn)]; exact kk
theorem tm_zald (X : tm_Cx p m c cc nL s args own meth ret D A tys) (h : tm_H D A s ws H locs) (q0 t0 : Nat) {cA : ClassId} {n : Nat} {f : Nat → Int32} (ha : ws[q0]? = some (a, .inl (cA, n, .inl f))) (ht : tys[t0]? = some (cA, .boolean)) {i : Int32} (k : Nat) (hk : k < n) (hi : i = nI k) (hn : n < 2 ^ 31) (hdg : decode cc pc = .ok (.baload, 1))
    (kk : W p l e R s m args below meth c H locs cells slots Q (F0 m (pc + 1) ls (.int (f k) :: rest))) : W p l e R s m args below meth c H locs cells slots Q (F0 m pc ls (.int i :: .ref a :: rest)) := by
  subst hi
  refine va_zald X.1.1 X.1.2.1 X.2.2.2.1 h.1 q0 t0 ha ht (vp_in_nI hk hn) hdg ?_
  rw [nI_clamp (Nat.lt_trans hk hn)]; exact kk
theorem tm_lald (X : tm_Cx p m c cc nL s args own meth ret D A tys) (h : tm_H D A s ws H locs) (q0 t0 : Nat) {cA : ClassId} {n : Nat} {f : Nat → Int64} (ha : ws[q0]? = some (a, .inl (cA, n, .inr (.inl f)))) (ht : tys[t0]? = some (cA, .long)) {i : Int32} (k : Nat) (hk : k < n) (hi : i = nI k) (hn : n < 2 ^ 31) (hdg : decode cc pc = .ok (.laload, 1))
    (kk : W p l e R s m args below meth c H locs cells slots Q (F0 m (pc + 1) ls (.long (f k) :: rest))) : W p l e R s m args below meth c H locs cells slots Q (F0 m pc ls (.int i :: .ref a :: rest)) := by
  subst hi
  refine va_lald X.1.1 X.1.2.1 X.2.2.2.1 h.1 q0 t0 ha ht (vp_in_nI hk hn) hdg ?_
  rw [nI_clamp (Nat.lt_trans hk hn)]; exact kk
theorem tm_iast (X : tm_Cx p m c cc nL s args own meth ret D A tys) (h : tm_H D A s ws H locs) (q0 t0 : Nat) {cA : ClassId} {n : Nat} {f : Nat → Int32} (ha : ws[q0]? = some (a, .inl (cA, n, .inl f))) (ht : tys[t0]? = some (cA, .int)) {i x : Int32} (k : Nat) (hk : k < n) (hi : i = nI k) (hn : n < 2 ^ 31) {ws' : va_W} (hw : ws.set q0 (a, .inl (cA, n, .inl (upd f k x))) = ws') (hdg : decode cc pc = .ok (.iastore, 1))
    (kk : ∀ (H1 : Heap) (locs1 : List Loc), tm_H D A s ws' H1 locs1 → W p l e R s m args below meth c H1 locs1 cells slots Q (F0 m (pc + 1) ls rest)) : W p l e R s m args below meth c H locs cells slots Q (F0 m pc ls (.int x :: .int i :: .ref a :: rest)) := by
  subst hi; subst hw
  refine va_iast X.1.1 X.1.2.1 X.2.2.2.1 h.1 h.2.1 h.2.2 q0 t0 ha ht (vp_in_nI hk hn) hdg (fun H1 locs1 a1 a2 a3 => ?_)
  rw [nI_clamp (Nat.lt_trans hk hn)] at a1 a2
  exact kk H1 locs1 ⟨a1, a2, a3⟩
theorem tm_zast (X : tm_Cx p m c cc nL s args own meth ret D A tys) (h : tm_H D A s ws H locs) (q0 t0 : Nat) {cA : ClassId} {n : Nat} {f : Nat → Int32} (ha : ws[q0]? = some (a, .inl (cA, n, .inl f))) (ht : tys[t0]? = some (cA, .boolean)) {i x : Int32} (k : Nat) (hk : k < n) (hi : i = nI k) (hn : n < 2 ^ 31) (hx : vp_nar .boolean x = x) {ws' : va_W} (hw : ws.set q0 (a, .inl (cA, n, .inl (upd f k x))) = ws') (hdg : decode cc pc = .ok (.bastore, 1))
    (kk : ∀ (H1 : Heap) (locs1 : List Loc), tm_H D A s ws' H1 locs1 → W p l e R s m args below meth c H1 locs1 cells slots Q (F0 m (pc + 1) ls rest)) : W p l e R s m args below meth c H locs cells slots Q (F0 m pc ls (.int x :: .int i :: .ref a :: rest)) := by
  subst hi; subst hw
  refine va_zast X.1.1 X.1.2.1 X.2.2.2.1 h.1 h.2.1 h.2.2 q0 t0 ha ht (vp_in_nI hk hn) hdg (fun H1 locs1 a1 a2 a3 => ?_)
  rw [nI_clamp (Nat.lt_trans hk hn), hx] at a1 a2
  exact kk H1 locs1 ⟨a1, a2, a3⟩
theorem tm_last (X : tm_Cx p m c cc nL s args own meth ret D A tys) (h : tm_H D A s ws H locs) (q0 t0 : Nat) {cA : ClassId} {n : Nat} {f : Nat → Int64} (ha : ws[q0]? = some (a, .inl (cA, n, .inr (.inl f)))) (ht : tys[t0]? = some (cA, .long)) {i : Int32} {x : Int64} (k : Nat) (hk : k < n) (hi : i = nI k) (hn : n < 2 ^ 31) {ws' : va_W} (hw : ws.set q0 (a, .inl (cA, n, .inr (.inl (vp_updL f k x)))) = ws') (hdg : decode cc pc = .ok (.lastore, 1))
    (kk : ∀ (H1 : Heap) (locs1 : List Loc), tm_H D A s ws' H1 locs1 → W p l e R s m args below meth c H1 locs1 cells slots Q (F0 m (pc + 1) ls rest)) : W p l e R s m args below meth c H locs cells slots Q (F0 m pc ls (.long x :: .int i :: .ref a :: rest)) := by
  subst hi; subst hw
  refine va_last X.1.1 X.1.2.1 X.2.2.2.1 h.1 h.2.1 h.2.2 q0 t0 ha ht (vp_in_nI hk hn) hdg (fun H1 locs1 a1 a2 a3 => ?_)
  rw [nI_clamp (Nat.lt_trans hk hn)] at a1 a2
  exact kk H1 locs1 ⟨a1, a2, a3⟩
end TML
theorem tm_goodL {L : List Cond} (h : ∀ w ∈ L, w ∈ tm_wa) : GoodIn tm_wa L := fun w hw => ⟨h w hw, good_of_word (List.mem_filter.mp (h w hw)).2⟩
theorem tm_blind {D : va_G} {tys : tm_Y} {w : va_W} {sz : Nat} {av : List Value} : FrameBlind (va_Pc av (tm_Pre D tys w sz)) := fun a U g mk q => by
  obtain ⟨q0, q1, qP, qK, qD, qN⟩ := q
  exact ⟨q0, q1, qP, va_K.moved (u := U) (U := U.calling g mk a) (Vm.Alike.refl U.vm) qK, qD, tm_N.same (s := U) rfl qN⟩
/-- what a call site's tables say: a private method of a nest mate; a static one of a nest mate; of this class -/
def tm_kd (y : MethodName) (bytes : ByteArray) (maxL : Nat) (ret : Option FieldType) (n : Nat) : Prop :=
  Cond.initialized y.cls ∈ tm_wa ∧ Cond.code y bytes maxL ret ∈ tm_wa ∧ (y.cls ≠ "java/lang/invoke/MethodHandle" ∧ y.cls ≠ "java/lang/invoke/VarHandle" ∧ (parseMethodDescriptor y.desc).map (fun d => d.parameters.length) = some n)
def tm_ki (y : MethodName) (bytes : ByteArray) (maxL : Nat) (ret : Option FieldType) (n : Nat) : Prop := tm_kd y bytes maxL ret n ∧ Cond.instanceMethod y ∈ tm_wa ∧ Cond.selects y.cls y y ∈ tm_wa
def tm_ks (y : MethodName) (bytes : ByteArray) (maxL : Nat) (ret : Option FieldType) (n : Nat) : Prop := tm_kd y bytes maxL ret n ∧ Cond.static y ∈ tm_wa
section TMR
variable {p : Program} {l : Launch} {e : Env} {R : Room} {s : State} {m : MethodId} {args : Array Value} {below : List Frame} {meth : Method} {c : Code} {H : Heap} {locs : List Loc} {cells slots : Nat} {Q : State → Prop}
variable {cc : ByteArray} {pc nL : Nat} {ls : Array Slot} {rest st0 : List Value} {D : va_G} {A : Nat → Prop} {a : Nat} {tys : tm_Y} {ws : va_W} {own : String} {ret : Option FieldType} {w : tm_SC → va_W} {u : tm_SC}
theorem tm_vret {post : tm_SC → Prop} (X : tm_Cx p m c cc nL s args own meth none D A tys) (h : tm_H D A s (w u) H locs) (hp : post u) (hdg : decode cc pc = .ok (.return_, 1)) :
    W p l e R s m args below meth c H locs cells slots (MQ below (va_Qv post (fun u t => tm_B D tys A (w u) t) A) args s cells slots A) (F0 m pc ls []) :=
  W.vret X.1.1 X.1.2.1 X.2.1 (fun t ht hW => ⟨⟨u, rfl, hp, by rw [ht]; exact h.1, va_K.moved hW.alike X.2.2.2.1, h.2.1⟩, h.2.2.F ht⟩) h.2.2.2.2 hdg X.2.2.1
theorem tm_iret {post : Int32 → tm_SC → Prop} {v : Int32} (X : tm_Cx p m c cc nL s args own meth (some .int) D A tys) (h : tm_H D A s (w u) H locs) (hp : post v u) (hdg : decode cc pc = .ok (.ireturn, 1)) :
    W p l e R s m args below meth c H locs cells slots (MQ below (va_Qi post (fun u t => tm_B D tys A (w u) t) A) args s cells slots A) (F0 m pc ls [.int v]) :=
  W.iret X.1.1 X.1.2.1 X.2.1 (fun t ht hW => ⟨⟨v, u, rfl, hp, by rw [ht]; exact h.1, va_K.moved hW.alike X.2.2.2.1, h.2.1⟩, h.2.2.F ht⟩) h.2.2.2.2 hdg X.2.2.1
theorem tm_zret {post : Int32 → tm_SC → Prop} {v : Int32} (X : tm_Cx p m c cc nL s args own meth (some .boolean) D A tys) (h : tm_H D A s (w u) H locs) (hn : narrow .boolean (.int v) = .int v) (hp : post v u) (hdg : decode cc pc = .ok (.ireturn, 1)) :
    W p l e R s m args below meth c H locs cells slots (MQ below (va_Qi post (fun u t => tm_B D tys A (w u) t) A) args s cells slots A) (F0 m pc ls [.int v]) :=
  W.zret X.1.1 X.1.2.1 X.2.1 hn (fun t ht hW => ⟨⟨v, u, rfl, hp, by rw [ht]; exact h.1, va_K.moved hW.alike X.2.2.2.1, h.2.1⟩, h.2.2.F ht⟩) h.2.2.2.2 hdg X.2.2.1
theorem tm_lret {post : Int64 → tm_SC → Prop} {v : Int64} (X : tm_Cx p m c cc nL s args own meth (some .long) D A tys) (h : tm_H D A s (w u) H locs) (hp : post v u) (hdg : decode cc pc = .ok (.lreturn, 1)) :
    W p l e R s m args below meth c H locs cells slots (MQ below (va_Ql post (fun u t => tm_B D tys A (w u) t) A) args s cells slots A) (F0 m pc ls [.long v]) :=
  W.lret X.1.1 X.1.2.1 X.2.1 (fun t ht hW => ⟨⟨v, u, rfl, hp, by rw [ht]; exact h.1, va_K.moved hW.alike X.2.2.2.1, h.2.1⟩, h.2.2.F ht⟩) h.2.2.2.2 hdg X.2.2.1
theorem tm_fr (X : tm_Cx p m c cc nL s args own meth ret D A tys) (h : tm_H D A s ws H locs) : ∀ q, va_A ws H.size q → A q := fun q hq => by
  rcases hq with ⟨k, x, hk⟩ | hq
  · exact h.2.1.2 k (q, x) hk
  · exact X.2.2.2.2.1 q (Nat.le_trans h.2.2.1 hq)
/-- behind a call: the callee's world was all of ours -/
theorem tm_cV {post : tm_SC → Prop} {aa : Array Value} (X : tm_Cx p m c cc nL s args own meth ret D A tys) (h : tm_H D A s (w u) H locs) (hr : va_Run p l e R s m args below meth c H locs cells slots 0 0 (F0 m pc ls st0) rest (va_Qv post (fun u' t => tm_B D tys (va_A (w u) H.size) (w u') t) (va_A (w u) H.size) aa) (va_A (w u) H.size))
    (kk : ∀ (u' : tm_SC) (H1 : Heap) (locs1 : List Loc), post u' → tm_H D A s (w u') H1 locs1 → W p l e R s m args below meth c H1 locs1 cells slots Q (F0 m (pc + 3) ls rest)) : W p l e R s m args below meth c H locs cells slots Q (F0 m pc ls st0) := by
  have hF := tm_fr X h
  exact va_callv hr h.2.2 (fun q _ hq => hF q hq) hF (fun u' t H1 locs1 ht _ hp hB _ _ hS => kk u' H1 locs1 hp ⟨by rw [← ht]; exact hB.1, hB.2.2.weaken (fun _ _ _ hq => hF _ hq), hS⟩)
theorem tm_cI {post : Int32 → tm_SC → Prop} {aa : Array Value} (X : tm_Cx p m c cc nL s args own meth ret D A tys) (h : tm_H D A s (w u) H locs) (hr : va_Run p l e R s m args below meth c H locs cells slots 0 0 (F0 m pc ls st0) rest (va_Qi post (fun u' t => tm_B D tys (va_A (w u) H.size) (w u') t) (va_A (w u) H.size) aa) (va_A (w u) H.size))
    (kk : ∀ (r : Int32) (u' : tm_SC) (H1 : Heap) (locs1 : List Loc), post r u' → tm_H D A s (w u') H1 locs1 → W p l e R s m args below meth c H1 locs1 cells slots Q (F0 m (pc + 3) ls (.int r :: rest))) : W p l e R s m args below meth c H locs cells slots Q (F0 m pc ls st0) := by
  have hF := tm_fr X h
  exact va_calli hr h.2.2 (fun q _ hq => hF q hq) hF (fun r u' t H1 locs1 ht _ hp hB _ _ hS => kk r u' H1 locs1 hp ⟨by rw [← ht]; exact hB.1, hB.2.2.weaken (fun _ _ _ hq => hF _ hq), hS⟩)
theorem tm_cL {post : Int64 → tm_SC → Prop} {aa : Array Value} (X : tm_Cx p m c cc nL s args own meth ret D A tys) (h : tm_H D A s (w u) H locs) (hr : va_Run p l e R s m args below meth c H locs cells slots 0 0 (F0 m pc ls st0) rest (va_Ql post (fun u' t => tm_B D tys (va_A (w u) H.size) (w u') t) (va_A (w u) H.size) aa) (va_A (w u) H.size))
    (kk : ∀ (r : Int64) (u' : tm_SC) (H1 : Heap) (locs1 : List Loc), post r u' → tm_H D A s (w u') H1 locs1 → W p l e R s m args below meth c H1 locs1 cells slots Q (F0 m (pc + 3) ls (.long r :: rest))) : W p l e R s m args below meth c H locs cells slots Q (F0 m pc ls st0) := by
  have hF := tm_fr X h
  exact va_calll hr h.2.2 (fun q _ hq => hF q hq) hF (fun r u' t H1 locs1 ht _ hp hB _ _ hS => kk r u' H1 locs1 hp ⟨by rw [← ht]; exact hB.1, hB.2.2.weaken (fun _ _ _ hq => hF _ hq), hS⟩)

theorem tm_cVf {t : tm_SC} {aa : Array Value} (X : tm_Cx p m c cc nL s args own meth ret D A tys) (h : tm_H D A s (w u) H locs) (hr : va_Run p l e R s m args below meth c H locs cells slots 0 0 (F0 m pc ls st0) rest (va_Qv (fun u' => u' = t) (fun u' t => tm_B D tys (va_A (w u) H.size) (w u') t) (va_A (w u) H.size) aa) (va_A (w u) H.size))
    (kk : ∀ (H1 : Heap) (locs1 : List Loc), tm_H D A s (w t) H1 locs1 → W p l e R s m args below meth c H1 locs1 cells slots Q (F0 m (pc + 3) ls rest)) : W p l e R s m args below meth c H locs cells slots Q (F0 m pc ls st0) :=
  tm_cV X h hr (fun u' H1 locs1 hp h => kk H1 locs1 (hp ▸ h))
theorem tm_cIf {v : Int32} {t : tm_SC} {aa : Array Value} (X : tm_Cx p m c cc nL s args own meth ret D A tys) (h : tm_H D A s (w u) H locs) (hr : va_Run p l e R s m args below meth c H locs cells slots 0 0 (F0 m pc ls st0) rest (va_Qi (fun r u' => r = v ∧ u' = t) (fun u' t => tm_B D tys (va_A (w u) H.size) (w u') t) (va_A (w u) H.size) aa) (va_A (w u) H.size))
    (kk : ∀ (H1 : Heap) (locs1 : List Loc), tm_H D A s (w t) H1 locs1 → W p l e R s m args below meth c H1 locs1 cells slots Q (F0 m (pc + 3) ls (.int v :: rest))) : W p l e R s m args below meth c H locs cells slots Q (F0 m pc ls st0) :=
  tm_cI X h hr (fun r u' H1 locs1 hp h => by rw [hp.1]; exact kk H1 locs1 (hp.2 ▸ h))
theorem tm_cLf {v : Int64} {t : tm_SC} {aa : Array Value} (X : tm_Cx p m c cc nL s args own meth ret D A tys) (h : tm_H D A s (w u) H locs) (hr : va_Run p l e R s m args below meth c H locs cells slots 0 0 (F0 m pc ls st0) rest (va_Ql (fun r u' => r = v ∧ u' = t) (fun u' t => tm_B D tys (va_A (w u) H.size) (w u') t) (va_A (w u) H.size) aa) (va_A (w u) H.size))
    (kk : ∀ (H1 : Heap) (locs1 : List Loc), tm_H D A s (w t) H1 locs1 → W p l e R s m args below meth c H1 locs1 cells slots Q (F0 m (pc + 3) ls (.long v :: rest))) : W p l e R s m args below meth c H locs cells slots Q (F0 m pc ls st0) :=
  tm_cL X h hr (fun r u' H1 locs1 hp h => by rw [hp.1]; exact kk H1 locs1 (hp.2 ▸ h))
/-- a callee's start out of ours -/
theorem tm_pre {av : List Value} (X : tm_Cx p m c cc nL s args own meth ret D A tys) (h : tm_H D A s ws H locs) : FrameBlind (va_Pc av (tm_Pre D tys ws H.size)) ∧ ∀ U : State, U.heap = H → s.WarmedH U.vm → va_Pc av (tm_Pre D tys ws H.size) av.toArray U :=
  ⟨tm_blind, fun U hU hV => ⟨rfl, by rw [hU], by rw [hU]; exact h.1, va_K.moved hV.alike X.2.2.2.1, h.2.1.weaken (fun _ _ _ _ => trivial), tm_N.warm hV X.2.2.2.2.2⟩⟩
section TMK
variable {y : MethodName} {host : String} {bytes : ByteArray} {maxL index n : Nat} {rt : Option FieldType} {rm : Room} {Qc : Array Value → State → Outcome → State → Prop} {free : Addr → Prop} {b : Addr} {As : List Value} {q0 ci : Nat} {qc : vw_C} {fs : List Value}
theorem tm_rVN (X : tm_Cx p m c cc nL s args own meth ret D A tys) (h : tm_H D A s ws H locs) (hM : Met l y (Cond.code y bytes maxL rt :: tm_wa) rm (va_Pc (.ref b :: As) (tm_Pre D tys ws H.size)) Qc 0 0 free) (hk : tm_ki y bytes maxL rt n) (hlink : Cond.methodLinkNest own index y host ∈ tm_nw) (he : ws[q0]? = some (b, .inr (ci, fs))) (hc : tm_cl[ci]? = some qc) (hq : qc.1 = y.cls)
    (hrc : rm.cells = 0) (hrs : rm.slots = 0) (hR : rm.frames + 1 ≤ R.frames ∧ 8 + (maxL + 11) + rm.locals ≤ R.locals) (hn : As.length = n) (hl : ls.size = nL) (hst : st0 = As.reverse ++ .ref b :: rest) (hW : (rest.map fun v => v.category).sum ≤ 8) (hdg : decode cc pc = .ok (.invokevirtual index, 3)) (hcl : cells ≤ R.cells ∧ slots ≤ R.slots) :
    va_Run p l e R s m args below meth c H locs cells slots 0 0 (F0 m pc ls st0) rest (Qc (Value.ref b :: As).toArray) free := by
  have hts := X.1.2.2.2.2
  obtain ⟨⟨k1, k2, k3⟩, k4, k5⟩ := hk
  obtain ⟨p1, p2⟩ := tm_pre (av := .ref b :: As) X h
  have hrv := va_recv X.2.2.2.1 h.1 hc he
  rw [hq] at hrv
  exact va_runVN (C := y.cls) X.1 hM ⟨va_cnB n hts (tm_good k2) rfl hrc hrs (X.2.2.2.2.2 _ hlink) (hts _ k1) k3 hR, hts _ k4, hts _ k5⟩ ⟨p1, hrv, p2⟩ rfl hn hl hst (lv_room hW) hdg hcl
theorem tm_rV (X : tm_Cx p m c cc nL s args own meth ret D A tys) (h : tm_H D A s ws H locs) (hM : Met l y (Cond.code y bytes maxL rt :: tm_wa) rm (va_Pc (.ref b :: As) (tm_Pre D tys ws H.size)) Qc 0 0 free) (hk : tm_ki y bytes maxL rt n) (hlink : Cond.methodLink own index y ∈ tm_wa) (he : ws[q0]? = some (b, .inr (ci, fs))) (hc : tm_cl[ci]? = some qc) (hq : qc.1 = y.cls)
    (hrc : rm.cells = 0) (hrs : rm.slots = 0) (hR : rm.frames + 1 ≤ R.frames ∧ 8 + (maxL + 11) + rm.locals ≤ R.locals) (hn : As.length = n) (hl : ls.size = nL) (hst : st0 = As.reverse ++ .ref b :: rest) (hW : (rest.map fun v => v.category).sum ≤ 8) (hdg : decode cc pc = .ok (.invokevirtual index, 3)) (hcl : cells ≤ R.cells ∧ slots ≤ R.slots) :
    va_Run p l e R s m args below meth c H locs cells slots 0 0 (F0 m pc ls st0) rest (Qc (Value.ref b :: As).toArray) free := by
  have hts := X.1.2.2.2.2
  obtain ⟨⟨k1, k2, k3⟩, k4, k5⟩ := hk
  obtain ⟨p1, p2⟩ := tm_pre (av := .ref b :: As) X h
  have hrv := va_recv X.2.2.2.1 h.1 hc he
  rw [hq] at hrv
  refine va_runV (C := y.cls) X.1 hM (cwV n hts (tm_goodL ?_) rfl hrc hrs ⟨rfl, k3⟩ hR) ⟨p1, hrv, p2⟩ rfl hn hl hst (lv_room hW) hdg hcl
  intro w hw
  rcases List.mem_append.mp hw with hw | hw
  · simp only [List.mem_cons, List.not_mem_nil, or_false] at hw
    rcases hw with e | e | e | e <;> (rw [e]; assumption)
  · exact ((tm_good k2) w hw).1
theorem tm_rSN (X : tm_Cx p m c cc nL s args own meth ret D A tys) (h : tm_H D A s ws H locs) (hM : Met l y (Cond.code y bytes maxL rt :: tm_wa) rm (va_Pc As (tm_Pre D tys ws H.size)) Qc 0 0 free) (hk : tm_ks y bytes maxL rt n) (hlink : Cond.methodLinkNest own index y host ∈ tm_nw)
    (hrc : rm.cells = 0) (hrs : rm.slots = 0) (hR : rm.frames + 1 ≤ R.frames ∧ 8 + (maxL + 11) + rm.locals ≤ R.locals) (hn : As.length = n) (hl : ls.size = nL) (hst : st0 = As.reverse ++ rest) (hW : (rest.map fun v => v.category).sum ≤ 8) (hdg : decode cc pc = .ok (.invokestatic index, 3)) (hcl : cells ≤ R.cells ∧ slots ≤ R.slots) :
    va_Run p l e R s m args below meth c H locs cells slots 0 0 (F0 m pc ls st0) rest (Qc As.toArray) free := by
  have hts := X.1.2.2.2.2
  obtain ⟨⟨k1, k2, k3⟩, k4⟩ := hk
  obtain ⟨p1, p2⟩ := tm_pre (av := As) X h
  exact va_runSN X.1 hM ⟨va_cnB n hts (tm_good k2) rfl hrc hrs (X.2.2.2.2.2 _ hlink) (hts _ k1) k3 hR, hts _ k4, trivial⟩ ⟨p1, p2⟩ rfl hn hl hst (lv_room hW) hdg hcl
theorem tm_rS (X : tm_Cx p m c cc nL s args own meth ret D A tys) (h : tm_H D A s ws H locs) (hM : Met l y (Cond.code y bytes maxL rt :: tm_wa) rm (va_Pc As (tm_Pre D tys ws H.size)) Qc 0 0 free) (hk : tm_ks y bytes maxL rt n) (hlink : Cond.methodLink own index y ∈ tm_wa)
    (hrc : rm.cells = 0) (hrs : rm.slots = 0) (hR : rm.frames + 1 ≤ R.frames ∧ 8 + (maxL + 11) + rm.locals ≤ R.locals) (hn : As.length = n) (hl : ls.size = nL) (hst : st0 = As.reverse ++ rest) (hW : (rest.map fun v => v.category).sum ≤ 8) (hdg : decode cc pc = .ok (.invokestatic index, 3)) (hcl : cells ≤ R.cells ∧ slots ≤ R.slots) :
    va_Run p l e R s m args below meth c H locs cells slots 0 0 (F0 m pc ls st0) rest (Qc As.toArray) free := by
  have hts := X.1.2.2.2.2
  obtain ⟨⟨k1, k2, k3⟩, k4⟩ := hk
  obtain ⟨p1, p2⟩ := tm_pre (av := As) X h
  refine va_runS X.1 hM (va_cwS n hts (tm_goodL ?_) rfl hrc hrs k3 hR) ⟨p1, p2⟩ rfl hn hl hst (lv_room hW) hdg hcl
  intro w hw
  rcases List.mem_append.mp hw with hw | hw
  · simp only [List.mem_cons, List.not_mem_nil, or_false] at hw
    rcases hw with e | e | e <;> (rw [e]; assumption)
  · exact ((tm_good k2) w hw).1
end TMK
theorem tm_max (X : tm_Cx p m c cc nL s args own meth ret D A tys) {index : Nat} (hlink : Cond.methodLink own index Lib.Math.max.name ∈ tm_wa) (hstat : Cond.static Lib.Math.max.name ∈ tm_wa) (hini : Cond.initialized "java/lang/Math" ∈ tm_wa) (hcode : Cond.code Lib.Math.max.name Lib.Math.max.code 2 (some .int) ∈ tm_wa) (hl : ls.size = nL)
    (hframes : 1 ≤ R.frames) (hlocals : (rest.map fun v => v.category).sum + 13 ≤ R.locals) (hc : cells ≤ R.cells) (hs : slots ≤ R.slots) {x y : Int32} (hdg : decode cc pc = .ok (.invokestatic index, 3))
    (kk : W p l e R s m args below meth c H locs cells slots Q (F0 m (pc + 3) ls (.int (if x < y then y else x) :: rest))) : W p l e R s m args below meth c H locs cells slots Q (F0 m pc ls (.int y :: .int x :: rest)) :=
  va_mmax X.1.1 X.1.2.1 (X.1.2.2.1.trans hl.symm) X.1.2.2.2.1 (X.1.2.2.2.2 _ hlink) (X.1.2.2.2.2 _ hstat) (X.1.2.2.2.2 _ hini) (X.1.2.2.2.2 _ hcode) hframes hlocals hc hs hdg kk
theorem tm_sw {dflt lo hi : Int} {offs : Array Int} {len : Nat} {x : Int32} {off : Int} {tgt : Nat} (k : Int32) (hk : x = k) (hexec : p.tables.exec = Jvm.exec) (hb : c.code = cc) (hdg : decode cc pc = .ok (.tableswitch dflt lo hi offs, len)) (h1 : ¬ k.toInt < lo) (h2 : ¬ hi < k.toInt) (ho : offs[(k.toInt - lo).toNat]? = some off) (ht : (pc : Int) + off = (tgt : Int))
    (kk : W p l e R s m args below meth c H locs cells slots Q (F0 m tgt ls rest)) : W p l e R s m args below meth c H locs cells slots Q (F0 m pc ls (.int x :: rest)) := by
  subst hk
  exact lv_tableIn hexec hb hdg h1 h2 ho ht kk
theorem tm_copyl (X : tm_Cx p m c cc nL s args own meth ret D A tys) (h : tm_H D A s ws H locs) {index : Nat} (hlink : Cond.methodLink own index arraycopyName ∈ tm_wa) (hnat : Cond.native arraycopyName ∈ tm_wa) (hstat : Cond.static arraycopyName ∈ tm_wa) (hini : Cond.initialized "java/lang/System" ∈ tm_wa) (hl : ls.size = nL)
    (q0 t0 : Nat) {cA : ClassId} {n : Nat} {f : Nat → Int64} (ha : ws[q0]? = some (a, .inl (cA, n, .inr (.inl f)))) (ht : tys[t0]? = some (cA, .long)) {sp dp : Int32} (i j k : Nat) (hi : sp = nI i) (hj : dp = nI j) (hn : n < 2 ^ 31) (h4 : i + k ≤ n) (h5 : j + k ≤ n)
    (hframes : 1 ≤ R.frames) (hlocals : (rest.map fun v => v.category).sum + (nativeFrameWords "java/lang/System" "arraycopy" 5 + 11) ≤ R.locals) {ws' : va_W} (hw : ws.set q0 (a, .inl (cA, n, .inr (.inl (va_cpy f f i j k)))) = ws') (hdg : decode cc pc = .ok (.invokestatic index, 3))
    (kk : ∀ (H1 : Heap) (locs1 : List Loc), tm_H D A s ws' H1 locs1 → W p l e R s m args below meth c H1 locs1 cells slots Q (F0 m (pc + 3) ls rest)) : W p l e R s m args below meth c H locs cells slots Q (F0 m pc ls (.int (nI k) :: .int dp :: .ref a :: .int sp :: .ref a :: rest)) := by
  subst hi; subst hj; subst hw
  have ei : (nI i).toNatClampNeg = i := nI_clamp (by omega)
  have ej : (nI j).toNatClampNeg = j := nI_clamp (by omega)
  have ek : (nI k).toNatClampNeg = k := nI_clamp (by omega)
  refine va_copyl X.1.1 X.1.2.1 (X.1.2.2.1.trans hl.symm) X.1.2.2.2.1 (X.1.2.2.2.2 _ hlink) (X.1.2.2.2.2 _ hnat) (X.1.2.2.2.2 _ hstat) (X.1.2.2.2.2 _ hini) X.2.2.2.1 h.1 h.2.1 h.2.2 q0 q0 t0 t0 ha ha ht ht rfl (nI_pos (by omega)) (nI_pos (by omega)) (nI_pos (by omega)) (by rw [ei, ek]; exact h4) (by rw [ej, ek]; exact h5) (fun _ _ => rfl) hframes hlocals hdg (fun H1 locs1 a1 a2 a3 => ?_)
  rw [ei, ej, ek] at a1 a2
  exact kk H1 locs1 ⟨a1, a2, a3⟩
end TMR
theorem tm_ix8 (i p : Nat) : nI i * 8 + nI p = nI (i * 8 + p) := (congrArg (· + nI p) (pk_mul i 8)).trans (nI_add (i * 8) p)
theorem tm_ix80 (i : Nat) : nI i * 8 = nI (i * 8) := pk_mul i 8
theorem tm_8ix (i p : Nat) : 8 * nI i + nI p = nI (8 * i + p) := (congrArg (· + nI p) (pk_mul 8 i)).trans (nI_add (8 * i) p)
theorem tm_vin {x : Int32} {n : Nat} (h : vp_in x n) (hn : n < 2 ^ 31) : x.toNatClampNeg < n ∧ x = nI x.toNatClampNeg := by
  obtain ⟨j, h1, h2⟩ := vp_in_of h hn
  subst h2
  rw [nI_clamp (Nat.lt_trans h1 hn)]
  exact ⟨h1, rfl⟩
def tm_wC (ad : Nat → Nat) (cI cL cZ : ClassId) (u : tm_SC) : va_W := [
  (ad 0, .inr (0, [.ref (ad 1), .ref (ad 8)])),
  (ad 1, .inr (1, [.ref (ad 2), .ref (ad 3), .ref (ad 4), .ref (ad 5), .ref (ad 6), .ref (ad 7), .int (u.1 11)])),
  (ad 2, .inl (cI, 100, .inl (u.2.1 0))),
  (ad 3, .inl (cI, 100, .inl (u.2.1 1))),
  (ad 4, .inl (cI, 100, .inl (u.2.1 2))),
  (ad 5, .inl (cI, 100, .inl (u.2.1 3))),
  (ad 6, .inl (cI, 100, .inl (u.2.1 4))),
  (ad 7, .inl (cI, 100, .inl (u.2.1 5))),
  (ad 8, .inr (2, [.ref (ad 1), .ref (ad 11), .ref (ad 14), .ref (ad 9), .ref (ad 10), .int (u.1 0), .int (u.1 1), .int (u.1 2), .int (u.1 3), .int (u.1 4), .int (u.1 5), .int (u.1 6), .int (u.1 7), .int (u.1 8), .int (u.1 9)])),
  (ad 9, .inl (cI, 120, .inl (u.2.1 6))),
  (ad 10, .inl (cI, 120, .inl (u.2.1 7))),
  (ad 11, .inr (3, [.ref (ad 12), .ref (ad 13)])),
  (ad 12, .inl (cI, 241, .inl (u.2.1 8))),
  (ad 13, .inl (cL, 1928, .inr (.inl u.2.2))),
  (ad 14, .inr (4, [.ref (ad 15), .ref (ad 16), .ref (ad 17), .int (u.1 10)])),
  (ad 15, .inl (cI, 120, .inl (u.2.1 9))),
  (ad 16, .inl (cZ, 120, .inl (u.2.1 10))),
  (ad 17, .inl (cI, 120, .inl (u.2.1 11)))]
def tm_wM (ad : Nat → Nat) (cI cZ : ClassId) (u : tm_SC) : va_W := [
  (ad 0, .inr (5, [.int (u.1 0), .ref (ad 1), .ref (ad 2), .ref (ad 3), .ref (ad 4), .ref (ad 5), .ref (ad 6), .ref (ad 7), .ref (ad 8), .ref (ad 9), .ref (ad 10), .ref (ad 11), .ref (ad 12), .int (u.1 1), .int (u.1 2), .int (u.1 3), .int (u.1 4), .int (u.1 5), .int (u.1 6), .int (u.1 7), .int (u.1 8), .int (u.1 9), .int (u.1 10), .int (u.1 11), .ref (ad 13), .ref (ad 14), .ref (ad 15), .ref (ad 16), .ref (ad 17), .int (u.1 12), .int (u.1 13)])),
  (ad 1, .inl (cI, 100, .inl (u.2.1 0))),
  (ad 2, .inl (cI, 100, .inl (u.2.1 1))),
  (ad 3, .inl (cI, 100, .inl (u.2.1 2))),
  (ad 4, .inl (cI, 100, .inl (u.2.1 3))),
  (ad 5, .inl (cI, 100, .inl (u.2.1 4))),
  (ad 6, .inl (cI, 100, .inl (u.2.1 5))),
  (ad 7, .inl (cI, 260, .inl (u.2.1 6))),
  (ad 8, .inl (cI, 2080, .inl (u.2.1 7))),
  (ad 9, .inl (cZ, 2080, .inl (u.2.1 8))),
  (ad 10, .inl (cI, 130, .inl (u.2.1 9))),
  (ad 11, .inl (cZ, 130, .inl (u.2.1 10))),
  (ad 12, .inl (cI, 130, .inl (u.2.1 11))),
  (ad 13, .inl (cI, 130, .inl (u.2.1 12))),
  (ad 14, .inl (cI, 130, .inl (u.2.1 13))),
  (ad 15, .inl (cI, 130, .inl (u.2.1 14))),
  (ad 16, .inl (cI, 130, .inl (u.2.1 15))),
  (ad 17, .inl (cZ, 130, .inl (u.2.1 16)))]
abbrev tm_yC (cI cL cZ : ClassId) : tm_Y := [(cI, .int), (cL, .long), (cZ, .boolean)]
abbrev tm_yM (cI cZ : ClassId) : tm_Y := [(cI, .int), (cZ, .boolean)]
theorem tm_uw {L : List Cond} (h : ∀ w ∈ L, w ∈ tables_1 ∧ goodWord w = true) : ∀ w ∈ L, w ∈ tm_wa := fun w hw => tm_tb (h w hw).1 (h w hw).2
theorem uw_TM : ∀ w ∈ u_ws "TrimmedMachine" F_TM 2, w ∈ tm_wa := tm_uw (by decide +kernel)
theorem uw_EX : ∀ w ∈ u_ws "TrimmedMachine$Expressions" F_EX 7, w ∈ tm_wa := tm_uw (by decide +kernel)
theorem uw_RN : ∀ w ∈ u_ws "TrimmedMachine$Run" F_RN 15, w ∈ tm_wa := tm_uw (by decide +kernel)
theorem uw_RW : ∀ w ∈ u_ws "TrimmedMachine$Rows" F_RW 2, w ∈ tm_wa := tm_uw (by decide +kernel)
theorem uw_CL : ∀ w ∈ u_ws "TrimmedMachine$Closures" F_CL 4, w ∈ tm_wa := tm_uw (by decide +kernel)
theorem uw_MD : ∀ w ∈ u_ws "TrimmedMachineModel" F_MD 31, w ∈ tm_wa := tm_uw (by decide +kernel)
