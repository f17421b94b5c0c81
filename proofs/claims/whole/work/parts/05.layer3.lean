/-! calls over more than eight words of our own stack; booleans -/
def tm_b1 (x : Int32) : Prop := x = 0 ∨ x = 1
theorem tm_b1.nar {x : Int32} (h : tm_b1 x) : vp_nar .boolean x = x := by rcases h with e | e <;> (rw [e]; rfl)
theorem tm_b1.narw {x : Int32} (h : tm_b1 x) : narrow .boolean (.int x) = .int x := by rcases h with e | e <;> (rw [e]; rfl)
theorem tm_b1.fit {x : Int32} (h : tm_b1 x) : fits .boolean (.int x) = true := by rcases h with e | e <;> (rw [e]; rfl)
theorem tm_b1.ite {P : Prop} [Decidable P] : tm_b1 (if P then 0 else 1) := by
  by_cases h : P
  · rw [if_pos h]; exact Or.inl rfl
  · rw [if_neg h]; exact Or.inr rfl
section TMX
variable {p : Program} {l : Launch} {e : Env} {R : Room} {s : State} {m : MethodId} {args : Array Value} {below : List Frame} {meth : Method} {c : Code} {H : Heap} {locs : List Loc} {cells slots : Nat} {Q : State → Prop}
variable {cc : ByteArray} {pc nL : Nat} {ls : Array Slot} {rest st0 : List Value} {D : va_G} {A : Nat → Prop} {tys : tm_Y} {ws : va_W} {own : String} {ret : Option FieldType}
variable {y : MethodName} {bytes : ByteArray} {maxL index n : Nat} {rt : Option FieldType} {rm : Room} {Qc : Array Value → State → Outcome → State → Prop} {free : Addr → Prop} {b : Addr} {As : List Value} {q0 ci : Nat} {qc : vw_C} {fs : List Value}
theorem tm_back {av : List Value} (X : tm_Cx p m c cc nL s args own meth ret D A tys) (hM : Met l y (Cond.code y bytes maxL rt :: tm_wa) rm (va_Pc av (tm_Pre D tys ws H.size)) Qc 0 0 free) (hk : tm_kd y bytes maxL rt n) (hrc : rm.cells = 0) (hrs : rm.slots = 0) (hR : rm.frames + 1 ≤ R.frames ∧ 16 + (maxL + 11) + rm.locals ≤ R.locals) :
    Back l R p e below s args y 3 16 (PreOf R 0 0 (va_Pc av (tm_Pre D tys ws H.size))) (PostOf Qc 0 0 free) :=
  back_of (bytes := bytes) (maxL := maxL) (ret := rt) hM tm_blind hrc hrs hR.1 hR.2 (pay_in X.1.2.2.2.2 (tm_good hk.2.1)) List.mem_cons_self
    (fun a' U hW => word_at hW (Or.inl (by first | rfl | simp [Cond.onTables, Cond.keeps, Cond.steady])) (X.1.2.2.2.2 _ hk.1))
theorem tm_len (hk : tm_kd y bytes maxL rt n) {k : Nat} (hn : k = n) : ∀ sig, parseMethodDescriptor y.desc = some sig → k = sig.parameters.length := fun sig h => by
  have h2 := hk.2.2.2.2
  rw [h] at h2
  exact hn.trans (Option.some.inj h2).symm
theorem tm_rV16 (X : tm_Cx p m c cc nL s args own meth ret D A tys) (h : tm_H D A s ws H locs) (hM : Met l y (Cond.code y bytes maxL rt :: tm_wa) rm (va_Pc (.ref b :: As) (tm_Pre D tys ws H.size)) Qc 0 0 free) (hk : tm_ki y bytes maxL rt n) (hlink : Cond.methodLink own index y ∈ tm_wa) (he : ws[q0]? = some (b, .inr (ci, fs))) (hc : tm_cl[ci]? = some qc) (hq : qc.1 = y.cls)
    (hrc : rm.cells = 0) (hrs : rm.slots = 0) (hR : rm.frames + 1 ≤ R.frames ∧ 16 + (maxL + 11) + rm.locals ≤ R.locals) (hn : As.length = n) (hl : ls.size = nL) (hst : st0 = As.reverse ++ .ref b :: rest) (hW : (rest.map fun v => v.category).sum ≤ 16) (hdg : decode cc pc = .ok (.invokevirtual index, 3)) (hcl : cells ≤ R.cells ∧ slots ≤ R.slots) :
    va_Run p l e R s m args below meth c H locs cells slots 0 0 (F0 m pc ls st0) rest (Qc (Value.ref b :: As).toArray) free := by
  have hts := X.1.2.2.2.2
  have hK := tm_back (e := e) (below := below) X hM hk.1 hrc hrs hR
  obtain ⟨p1, p2⟩ := tm_pre (av := .ref b :: As) X h
  have hrv := va_recv X.2.2.2.1 h.1 hc he
  rw [hq] at hrv
  obtain ⟨cellB, hcB, hoB, hclB⟩ := hrv
  intro T hT Y
  obtain ⟨v, vm₁, ⟨U', l2, c2, s2⟩, -, X', ⟨g', mk, t, L, e1, e2, hq, h1, hL, h2, h3⟩, st⟩ := callV Y X.1.1 (C := y.cls) (bytes := bytes) (maxL := maxL) (ret := rt) X.1.2.2.2.1 (hts _ hlink) (hts _ hk.2.1) (hts _ hk.2.2) (hts _ hk.1.2.1) ⟨hk.1.2.2.1, hk.1.2.2.2.1⟩ hK (by rw [hT]; exact hcB) hoB hclB (g := F0 m pc ls st0) rfl (hl.trans X.1.2.2.1.symm) (argsL := As) (rest := rest) (tm_len hk.1 hn) hst (by show 2 * 0 + _ ≤ 16; omega) (by rw [X.1.2.1]; exact hdg)
    (fun vm₁ hW₁ => ⟨hcl.1, hcl.2, p2 (T.setVm vm₁) hT hW₁⟩)
  dsimp only [Pt.U, Pt.locs, Pt.cells, Pt.slots] at X' e1 e2 h1 h2 h3 st
  subst h1; subst h2; subst h3
  exact ⟨v, (T.setVm vm₁).calling g' mk (Value.ref b :: As).toArray, t, U', L, hT, X', hL, e1, e2, hq, st⟩
theorem tm_rS16 (X : tm_Cx p m c cc nL s args own meth ret D A tys) (h : tm_H D A s ws H locs) (hM : Met l y (Cond.code y bytes maxL rt :: tm_wa) rm (va_Pc As (tm_Pre D tys ws H.size)) Qc 0 0 free) (hk : tm_ks y bytes maxL rt n) (hlink : Cond.methodLink own index y ∈ tm_wa)
    (hrc : rm.cells = 0) (hrs : rm.slots = 0) (hR : rm.frames + 1 ≤ R.frames ∧ 16 + (maxL + 11) + rm.locals ≤ R.locals) (hn : As.length = n) (hl : ls.size = nL) (hst : st0 = As.reverse ++ rest) (hW : (rest.map fun v => v.category).sum ≤ 16) (hdg : decode cc pc = .ok (.invokestatic index, 3)) (hcl : cells ≤ R.cells ∧ slots ≤ R.slots) :
    va_Run p l e R s m args below meth c H locs cells slots 0 0 (F0 m pc ls st0) rest (Qc As.toArray) free := by
  have hts := X.1.2.2.2.2
  have hK := tm_back (e := e) (below := below) X hM hk.1 hrc hrs hR
  obtain ⟨p1, p2⟩ := tm_pre (av := As) X h
  intro T hT Y
  obtain ⟨v, vm₁, ⟨U', l2, c2, s2⟩, -, X', ⟨g', mk, t, L, e1, e2, hq, h1, hL, h2, h3⟩, st⟩ := callS Y X.1.1 (bytes := bytes) (maxL := maxL) (ret := rt) X.1.2.2.2.1 (hts _ hlink) (hts _ hk.2) (hts _ hk.1.1) (hts _ hk.1.2.1) ⟨hk.1.2.2.1, hk.1.2.2.2.1⟩ hK (g := F0 m pc ls st0) rfl (hl.trans X.1.2.2.1.symm) (argsL := As) (rest := rest) (tm_len hk.1 hn) hst (by show 2 * 0 + _ ≤ 16; omega) (by rw [X.1.2.1]; exact hdg)
    (fun vm₁ hW₁ => ⟨hcl.1, hcl.2, p2 (T.setVm vm₁) hT hW₁⟩)
  dsimp only [Pt.U, Pt.locs, Pt.cells, Pt.slots] at X' e1 e2 h1 h2 h3 st
  subst h1; subst h2; subst h3
  exact ⟨v, (T.setVm vm₁).calling g' mk As.toArray, t, U', L, hT, X', hL, e1, e2, hq, st⟩
end TMX
/-! the reference: making expressions -/
abbrev ms_np (u : tm_SC) (e : Int32) : Prop := e < 0 ∨ u.1 0 ≤ e
theorem ms_pt {u : tm_SC} {e : Int32} {n : Nat} (h : ¬ ms_np u e) (hn : u.1 0 = nI n) (h2 : n ≤ 100) : vp_in e n := by
  rw [vp_in_iff]
  have a : ¬ e < 0 := fun q => h (Or.inl q)
  have b : ¬ u.1 0 ≤ e := fun q => h (Or.inr q)
  rw [hn, Int32.le_iff_toInt_le, nI_toInt (by omega)] at b
  rw [Int32.lt_iff_toInt_lt, Int32.toInt_zero] at a
  omega
theorem ms_pt1 {u : tm_SC} {e : Int32} {n : Nat} (h : ¬ ms_np u e) (hn : u.1 0 = nI n) (h2 : n ≤ 100) : e.toNatClampNeg < 100 ∧ e = nI e.toNatClampNeg :=
  ⟨Nat.lt_of_lt_of_le (tm_vin (ms_pt h hn h2) (by omega)).1 h2, (tm_vin (ms_pt h hn h2) (by omega)).2⟩
def ms_hi (u : tm_SC) (e : Int32) : Int32 := if ms_np u e then 99 else u.2.1 5 e.toNatClampNeg
def ms_fr (u : tm_SC) (e : Int32) : Int32 := if ms_np u e then 0 else u.2.1 4 e.toNatClampNeg
def ms_gr (a b : Int32) : Int32 := if a ≤ b then b else a
def ms_mkT (n : Nat) (g h : Int32) : Int32 := if g = 0 ∨ 10 < h then 1 else if n = 100 then 2 else 0
def ms_add (u : tm_SC) (n : Nat) (k a b c f h : Int32) : tm_SC := tm_sf (tm_sa (tm_sa (tm_sa (tm_sa (tm_sa (tm_sa (tm_sf u 13 0) 0 n k) 1 n a) 2 n b) 3 n c) 4 n f) 5 n h) 0 (nI (n + 1))
def ms_mkU (u : tm_SC) (n : Nat) (g k a b c f h : Int32) : tm_SC := if ms_mkT n g h = 0 then ms_add u n k a b c f h else tm_sf u 13 (ms_mkT n g h)
def ms_mkR (n : Nat) (g h : Int32) : Int32 := if ms_mkT n g h = 0 then nI n else 0
theorem ms_no {u v : tm_SC} {n : Nat} {g k a b c f h t r : Int32} (e : ms_mkT n g h = t) (ht : ¬ t = 0) (hv : v = tm_sf u 13 t) (hr : r = 0) : r = ms_mkR n g h ∧ v = ms_mkU u n g k a b c f h := by
  subst e
  exact ⟨hr.trans (if_neg ht).symm, hv.trans (if_neg ht).symm⟩
theorem ms_yes {u v : tm_SC} {n : Nat} {g k a b c f h r : Int32} (e : ms_mkT n g h = 0) (hv : v = ms_add u n k a b c f h) (hr : r = nI n) : r = ms_mkR n g h ∧ v = ms_mkU u n g k a b c f h := ⟨hr.trans (if_pos e).symm, hv.trans (if_pos e).symm⟩
def ms_vg (v : Int32) : Int32 := if v < 0 ∨ 8 ≤ v then 0 else 1
def ms_numU (u : tm_SC) (n : Nat) (x : Int32) : tm_SC := tm_sf (ms_mkU u n 1 0 x 0 0 0 0) 13 (if (ms_mkU u n 1 0 x 0 0 0 0).1 13 = 2 then 1 else 0)
def ms_varU (u : tm_SC) (n : Nat) (v : Int32) : tm_SC := ms_mkU u n (ms_vg v) 1 v 0 0 (if ms_vg v = 0 then 0 else 1 <<< (v &&& 31)) 0
def ms_fg (u : tm_SC) (s v b : Int32) : Int32 := if s < -1 ∨ 8 ≤ s ∨ ms_vg v = 0 ∨ ms_np u b then 0 else 1
def ms_bd (u : tm_SC) (s v b : Int32) : Int32 := if ms_fg u s v b = 0 then 0 else (1 <<< (v &&& 31)) ||| (if 0 ≤ s then 1 <<< (s &&& 31) else 0)
def ms_funU (u : tm_SC) (n : Nat) (s v b : Int32) : tm_SC := ms_mkU u n (ms_fg u s v b) 2 s v b (ms_fr u b &&& (ms_bd u s v b ^^^ (-1))) (1 + ms_hi u b)
theorem ms_fun0 {u : tm_SC} {n : Nat} {s v b : Int32} (h : ms_fg u s v b = 0) : ms_mkR n 0 (1 + ms_hi u b) = ms_mkR n (ms_fg u s v b) (1 + ms_hi u b) ∧ ms_mkU u n 0 2 s v b (ms_fr u b &&& (0 ^^^ (-1))) (1 + ms_hi u b) = ms_funU u n s v b := by
  unfold ms_funU ms_bd
  rw [h, if_pos rfl]
  exact ⟨rfl, rfl⟩
theorem ms_fun1 {u : tm_SC} {n : Nat} {s v b : Int32} (h : ¬ (s < -1 ∨ 8 ≤ s ∨ ms_vg v = 0 ∨ ms_np u b)) {x : Int32} (hx : x = if 0 ≤ s then 1 <<< (s &&& 31) else 0) : ms_mkR n 1 (1 + ms_hi u b) = ms_mkR n (ms_fg u s v b) (1 + ms_hi u b) ∧ ms_mkU u n 1 2 s v b (ms_fr u b &&& (((1 <<< (v &&& 31)) ||| x) ^^^ (-1))) (1 + ms_hi u b) = ms_funU u n s v b := by
  unfold ms_funU ms_bd
  rw [show ms_fg u s v b = 1 from if_neg h, if_neg (by decide), hx]
  exact ⟨rfl, rfl⟩
def ms_cg (u : tm_SC) (f x : Int32) : Int32 := if ms_np u f ∨ ms_np u x then 0 else 1
def ms_calU (u : tm_SC) (n : Nat) (f x : Int32) : tm_SC := ms_mkU u n (ms_cg u f x) 3 f x 0 (ms_fr u f ||| ms_fr u x) (1 + ms_gr (ms_hi u f) (ms_hi u x))
def ms_og (u : tm_SC) (o x y : Int32) : Int32 := if o < 0 ∨ 4 ≤ o ∨ ms_np u x ∨ ms_np u y then 0 else 1
def ms_opU (u : tm_SC) (n : Nat) (o x y : Int32) : tm_SC := ms_mkU u n (ms_og u o x y) 4 x y o (ms_fr u x ||| ms_fr u y) (1 + ms_gr (ms_hi u x) (ms_hi u y))
def ms_hg (u : tm_SC) (c a b : Int32) : Int32 := if ms_np u c ∨ ms_np u a ∨ ms_np u b then 0 else 1
def ms_choU (u : tm_SC) (n : Nat) (c a b : Int32) : tm_SC := ms_mkU u n (ms_hg u c a b) 5 c a b ((ms_fr u c ||| ms_fr u a) ||| ms_fr u b) (1 + ms_gr (ms_hi u c) (ms_gr (ms_hi u a) (ms_hi u b)))
def ms_freU (u : tm_SC) (e : Int32) : tm_SC := tm_sf u 13 (if ms_np u e then 1 else 0)
