section TXN
variable {p : Program} {l : Launch} {e : Env} {R : Room} {s : State} {m : MethodId} {args : Array Value} {below : List Frame} {meth : Method} {c : Code} {H : Heap} {locs : List Loc} {cells slots : Nat}
variable {cc : ByteArray} {pc nL : Nat} {ls : Array Slot} {rest st0 : List Value} {D : va_G} {A : Nat → Prop} {tys : tm_Y} {ws : va_W} {own : String} {ret : Option FieldType} {Qc : Array Value → State → Outcome → State → Prop} {XC : String → State → State → Prop} {free : Addr → Prop}
variable {y : MethodName} {host : String} {bytes : ByteArray} {maxL index n : Nat} {rt : Option FieldType} {rm : Room} {b : Addr} {As : List Value} {q0 ci : Nat} {qc : vw_C} {fs : List Value}
/-- a private method of a nest mate that may throw -/
theorem tx_rVN (X : tm_Cx p m c cc nL s args own meth ret D A tys) (h : tm_H D A s ws H locs) (hE : tx_E A s s.heap) (hM : tx_Met l y (Cond.code y bytes maxL rt :: tm_wa) rm (va_Pc (.ref b :: As) (tx_Pre D tys ws H.size)) Qc XC free) (hk : tm_ki y bytes maxL rt n) (hlink : Cond.methodLinkNest own index y host ∈ tm_nw) (he : ws[q0]? = some (b, .inr (ci, fs))) (hc : tm_cl[ci]? = some qc) (hq : qc.1 = y.cls)
    (hrc : rm.cells = 1) (hrs : rm.slots = 6) (hR : rm.frames + 1 ≤ R.frames ∧ 8 + (maxL + 11) + rm.locals ≤ R.locals) (hn : As.length = n) (hl : ls.size = nL) (hst : st0 = As.reverse ++ .ref b :: rest) (hW : (rest.map fun v => v.category).sum ≤ 8) (hdg : decode cc pc = .ok (.invokevirtual index, 3)) (hcl : cells + 1 ≤ R.cells ∧ slots + 6 ≤ R.slots) :
    tx_Run p l e R s m args below meth c H locs cells slots (F0 m pc ls st0) rest (Qc (Value.ref b :: As).toArray) XC free := by
  have hts := X.1.2.2.2.2
  have hK := tx_bk (e := e) (below := below) X hM hk.1 hrc hrs hR
  have p2 := tx_pre (av := .ref b :: As) X h hE
  have hrv := va_recv X.2.2.2.1 h.1 hc he
  rw [hq] at hrv
  obtain ⟨cellB, hcB, hoB, hclB⟩ := hrv
  have hsz : ls.size = c.maxLocals := hl.trans X.1.2.2.1.symm
  have hd' : decode c.code pc = .ok (.invokevirtual index, 3) := by rw [X.1.2.1]; exact hdg
  have hy : y.cls ≠ "java/lang/invoke/MethodHandle" ∧ y.cls ≠ "java/lang/invoke/VarHandle" := ⟨hk.1.2.2.1, hk.1.2.2.2.1⟩
  obtain ⟨mk, methM, hnamed, hmethM, hstM, habM⟩ := Cond.instanceMethod_spec (hts _ hk.2.1)
  obtain ⟨methM', cM, hmethM', -, -, -, -, -, -, hsigM⟩ := Cond.code_spec hnamed (hts _ hk.1.2.1)
  cases hmethM.symm.trans hmethM'
  obtain ⟨c2, r2, m2, q1, q2, q3, q4, kP, hkP, hkPi⟩ := Cond.selects_spec (hts _ hk.2.2)
  cases hclB.symm.trans q1
  cases (State.methodFound?_of_named hnamed hy).symm.trans q2
  cases hnamed.symm.trans q3
  intro T hT Y
  have hselP : selectMethod e.platform s.vm cellB.cls mk = .method mk := by rw [Launch.admits_selectMethod Y.admits]; exact q4
  obtain ⟨vm₁, X₁, hstep₁⟩ := Y.invokevirtualNest X.1.1 X.1.2.2.2.1 ((X.2.2.2.2.2 _ hlink).use rfl) hnamed hmethM hstM hkP hkPi hy (a := b) (cell := cellB) (by rw [hT]; exact hcB)
    (fun z h => by rw [h] at hoB; cases hoB) hselP hmethM habM hkP hkPi (g := F0 m pc ls st0) rfl (argsL := As) (rest := rest) (tm_len hk.1 hn _ hsigM) hst hd'
  rcases hK m meth c ⟨T.setVm vm₁, locs, cells, slots⟩ (F0 m pc ls rest) (.invokevirtual index) mk (Value.ref b :: As).toArray X₁ rfl hsz hd' (by show 2 * 0 + (rest.map fun v => v.category).sum ≤ 8; omega) (X₁.named hnamed) ⟨hcl.1, hcl.2, p2 (T.setVm vm₁) hT X₁.warmed⟩ with ⟨v, ⟨U', l2, c2, s2⟩, X', ⟨g', mk', t, L, e1, e2, hq, h1, hL, h2, h3⟩, st⟩ | ⟨q, ⟨U', l2, c2, s2⟩, X', ⟨g', mk', t, L, E, ce, e1, e2, hq, hce, hcv, hcl', h1, hL, h2, h3⟩, st⟩
  · dsimp only [Pt.U, Pt.locs, Pt.cells, Pt.slots] at X' e1 e2 h1 h2 h3 st
    subst h1; subst h2; subst h3
    exact Or.inl ⟨v, (T.setVm vm₁).calling g' mk' (Value.ref b :: As).toArray, t, U', L, hT, X', hL, e1, e2, hq, fun target hh => hstep₁ _ fun acts => by rw [doInvoke_state]; exact st.trans hh⟩
  · dsimp only [Pt.U, Pt.locs, Pt.cells, Pt.slots] at X' e1 e2 h1 h2 h3 st hcl'
    subst h1; subst h2; subst h3
    exact Or.inr ⟨q, (T.setVm vm₁).calling g' mk' (Value.ref b :: As).toArray, t, U', L, E, ce, hT, X', hL, e1, e2, hq, hce, hcv, vx_cls X₁.warmed hcl', hstep₁ _ fun acts => by rw [doInvoke_state]; exact st⟩
end TXN
def cs_MI (w : tm_SC) (F : Nat) (L M : Nat → Prop) : Prop := w.1 0 = nI F ∧ F ≤ 120 ∧ cs_LL w M ∧ (∀ i, i ≤ F → cs_row w L i) ∧ ∀ c, c < 120 → L c → cs_row w L (121 + c)
/-- the end of a step whose action left w -/
def cs_fin (w v : tm_SC) : Prop :=
  (¬ w.1 1 = 1 ∧ v = tm_sf w 3 (w.1 3 + 1)) ∨ (w.1 1 = 1 ∧ ∃ F L m, (w.1 0 = nI F ∧ F ≤ 120) ∧ cs_MP w F L m ∧ ¬ m.1 2 < m.1 4 ∧ v = tm_sf (tm_sf m 5 (cs_mx (m.1 5) (m.1 4))) 3 (m.1 3 + 1))
def cs_stP (P : tm_SC → Prop) (v : tm_SC) : Prop := ∃ w, P w ∧ cs_fin w v
def cs_stX (P : tm_SC → Prop) (PX : String → tm_SC → Prop) (E : String) (v : tm_SC) : Prop := PX E v ∨ ∃ w, P w ∧ w.1 1 = 1 ∧ ∃ F L m, (w.1 0 = nI F ∧ F ≤ 120) ∧ cs_MP w F L m ∧ E = "java/lang/IllegalStateException" ∧ m.1 2 < m.1 4 ∧ v = tm_sf m 1 3
def cs_rn (T : tm_SC → tm_SC → Prop) : Nat → Nat → tm_SC → Nat → tm_SC → Prop
  | 0, d, u, d', v => d' = d ∧ v = u
  | k + 1, d, u, d', v => (¬ u.1 1 = 1 ∧ d' = d ∧ v = u) ∨ (u.1 1 = 1 ∧ ∃ u1, T u u1 ∧ cs_rn T k (d + 1) u1 d' v)
def cs_rx (T : tm_SC → tm_SC → Prop) (TX : tm_SC → String → tm_SC → Prop) : Nat → tm_SC → String → tm_SC → Prop
  | 0, _, _, _ => False
  | k + 1, u, E, v => u.1 1 = 1 ∧ (TX u E v ∨ ∃ u1, T u u1 ∧ cs_rx T TX k u1 E v)
theorem cs_rn_stop {T : tm_SC → tm_SC → Prop} {u : tm_SC} (h : ¬ u.1 1 = 1) (d : Nat) : ∀ k, cs_rn T k d u d u
  | 0 => ⟨rfl, rfl⟩
  | _ + 1 => Or.inl ⟨h, rfl, rfl⟩
theorem cs_rn_good {T : tm_SC → tm_SC → Prop} {u v w : tm_SC} {d d' n : Nat} (h : u.1 1 = 1) (hk : d < n) (ht : T u v) (hn : cs_rn T (n - (d + 1)) (d + 1) v d' w) : cs_rn T (n - d) d u d' w := by
  rw [show n - d = (n - (d + 1)) + 1 by omega]
  exact Or.inr ⟨h, v, ht, hn⟩
theorem cs_rx_bad {T : tm_SC → tm_SC → Prop} {TX : tm_SC → String → tm_SC → Prop} {u v : tm_SC} {d n : Nat} {E : String} (h : u.1 1 = 1) (hk : d < n) (ht : TX u E v) : cs_rx T TX (n - d) u E v := by
  rw [show n - d = (n - (d + 1)) + 1 by omega]
  exact ⟨h, Or.inl ht⟩
theorem cs_rx_good {T : tm_SC → tm_SC → Prop} {TX : tm_SC → String → tm_SC → Prop} {u v w : tm_SC} {d n : Nat} {E : String} (h : u.1 1 = 1) (hk : d < n) (ht : T u v) (hn : cs_rx T TX (n - (d + 1)) v E w) : cs_rx T TX (n - d) u E w := by
  rw [show n - d = (n - (d + 1)) + 1 by omega]
  exact ⟨h, Or.inr ⟨v, ht, hn⟩⟩
def cs_abt (u : tm_SC) (x : Int32) : Int32 :=
  if x = 0 then u.1 1 else if x = 1 then u.1 3 else if x = 2 then (if u.1 1 = 1 then u.1 4 else 0) else if x = 3 then u.1 5 else if x = 4 then (if u.1 1 = 1 then u.1 0 else 0) else if x = 5 then (if u.1 1 = 1 then u.1 10 else 0) else -1
