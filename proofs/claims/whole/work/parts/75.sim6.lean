/-! both sides side by side: what a step's action does -/
def sm_uC (u w : tm_SC) : Prop := (∀ j, j ≠ 0 → j ≠ 6 → j ≠ 7 → w.1 j = u.1 j) ∧ ∀ j, j ≠ 6 → j ≠ 7 → j ≠ 8 → j ≠ 9 → w.2.1 j = u.2.1 j
def sm_uM (v w : tm_SC) : Prop := (∀ j, j < 7 ∨ 12 < j → w.1 j = v.1 j) ∧ (∀ j, j < 6 ∨ j = 10 ∨ j = 11 → w.2.1 j = v.2.1 j) ∧ ((∀ m, tm_b1 (v.2.1 8 m)) → ∀ m, tm_b1 (w.2.1 8 m))
section SMU
variable {u v w : tm_SC}
theorem sm_uC.rf : sm_uC u u := ⟨fun _ _ _ _ => rfl, fun _ _ _ _ _ => rfl⟩
theorem sm_uC.sf (h : sm_uC u w) {j : Nat} (x : Int32) (hj : j = 0 ∨ j = 6 ∨ j = 7) : sm_uC u (tm_sf w j x) := ⟨fun i a b c => (pk_un (by omega)).trans (h.1 i a b c), h.2⟩
theorem sm_uC.sa (h : sm_uC u w) {a : Nat} (i : Nat) (x : Int32) (ha : 6 ≤ a ∧ a ≤ 9) : sm_uC u (tm_sa w a i x) := ⟨h.1, fun j a b c d => (sm_saa w _ i x (by omega)).trans (h.2 j a b c d)⟩
theorem sm_uC.sl (h : sm_uC u w) (i : Nat) (x : Int64) : sm_uC u (tm_sl w i x) := h
theorem sm_uC.sv (h : sm_uC u w) (x : Nat → Int64) : sm_uC u (tm_sv w x) := h
theorem sm_uC.trim (h : sm_uC u w) (i : Nat) (x : Int32) : sm_uC u (cs_trim w i x) := h.sa _ _ (by decide)
theorem sm_uC.give (h : sm_uC u w) (i p : Nat) (x : Int64) : sm_uC u (cs_give w i p x) := (h.sa _ _ (by decide)).sl _ _
theorem sm_uC.set1 (h : sm_uC u w) (i : Nat) (x : Int64) : sm_uC u (cs_set1 w i x) := (h.sa _ _ (by decide)).give _ _ _
theorem sm_uC.copy (h : sm_uC u w) (i j : Nat) : sm_uC u (cs_copy w i j) := (h.sa _ _ (by decide)).sv _
theorem sm_uC.copyT (h : sm_uC u w) (i j : Nat) (x : Int32) : sm_uC u (cs_copyT w i j x) := (h.copy i j).trim _ _
theorem sm_uC.ret (h : sm_uC u w) (x : Int64) : sm_uC u (cs_ret w x) := (h.sf _ (by decide)).set1 _ _
theorem sm_uC.ev (h : sm_uC u w) (b : Nat) : sm_uC u (cs_ev w b) := ((h.sf _ (by decide)).sf _ (by decide)).trim _ _
theorem sm_uC.evP {e F : Nat} (h : cs_evP u e F w) : sm_uC u w := by
  rcases h with ⟨-, rfl⟩ | ⟨-, -, rfl⟩ | ⟨-, k, -, -, -, rfl⟩ | ⟨-, -, -, -, rfl⟩
  · exact sm_uC.rf.ret _
  · exact sm_uC.rf.ret _
  · exact ((sm_uC.rf.sa _ _ (by decide)).copyT _ _ _).ret _
  · exact ((((sm_uC.rf.sa _ _ (by decide)).sa _ _ (by decide)).copyT _ _ _).sf _ (by decide)).ev _
theorem sm_uC.bkP {f e c g a b : Nat} (h : cs_bkP u f e c g a b w) : sm_uC u w := by
  rcases h with ⟨-, rfl⟩ | ⟨-, rfl⟩ | ⟨-, -, -, rfl⟩ | ⟨-, -, rfl⟩ | ⟨-, -, rfl⟩
  · exact (((sm_uC.rf.copy _ _).set1 _ _).sa _ _ (by decide)).ev _
  · exact (((sm_uC.rf.copy _ _).set1 _ _).sa _ _ (by decide)).ev _
  · exact (sm_uC.rf.sf _ (by decide)).ret _
  · exact ((sm_uC.rf.sf _ (by decide)).copy _ _).ev _
  · have h1 : sm_uC u (cs_ap1 u f c a) := ((sm_uC.rf.sf _ (by decide)).copy _ _).give _ _ _
    unfold cs_apx
    split
    · exact h1.ev _
    · exact (h1.give _ _ _).ev _
theorem sm_uM.rf : sm_uM v v := ⟨fun _ _ => rfl, fun _ _ => rfl, id⟩
theorem sm_uM.sf (h : sm_uM v w) {j : Nat} (x : Int32) (h1 : 7 ≤ j) (h2 : j ≤ 12) : sm_uM v (tm_sf w j x) := ⟨fun i a => (pk_un (by omega)).trans (h.1 i a), h.2⟩
theorem sm_uM.sa (h : sm_uM v w) {a : Nat} (i : Nat) (x : Int32) (ha : a = 6 ∨ a = 7 ∨ a = 9 ∨ (12 ≤ a ∧ a ≤ 16)) : sm_uM v (tm_sa w a i x) :=
  ⟨h.1, fun j q => (sm_saa w _ i x (by omega)).trans (h.2.1 j q), fun q m => by rw [sm_saa w a i x (by omega)]; exact h.2.2 q m⟩
theorem sm_uM.copy (h : sm_uM v w) (i j : Nat) (x : Int32) : sm_uM v (ms_copy w i j x) := by
  refine ⟨fun k q => by rw [ms_copy_f]; exact h.1 k q, fun k q => ?_, fun q m => ms_copy_b (h.2.2 q) m⟩
  rw [ms_copy_a _ _ _ _ (by omega) (by omega) (by omega)]; exact h.2.1 k q
theorem sm_uM.give (h : sm_uM v w) (i p : Nat) (x c : Int32) (hc : (∀ m, tm_b1 (v.2.1 8 m)) → tm_b1 c) : sm_uM v (ms_give w i p x c) := by
  refine ⟨h.1, fun k q => ?_, fun q m => ms_give_b (h.2.2 q) (hc q) m⟩
  rw [ms_give_a _ _ _ _ _ (by omega) (by omega) (by omega)]; exact h.2.1 k q
theorem sm_uM.gb (h : sm_uM v w) (x c : Int32) : sm_uM v (ms_gb w x c) := ((h.sf _ (by decide) (by decide)).sf _ (by decide) (by decide)).sf _ (by decide) (by decide)
theorem sm_uM.ei (h : sm_uM v w) (i e : Nat) : sm_uM v (ms_ei w i e) := ((h.copy _ _ _).sf _ (by decide) (by decide)).sf _ (by decide) (by decide)
theorem sm_uM.push (h : sm_uM v w) (F : Nat) (k x y m : Int32) : sm_uM v (ms_push w F k x y m) := ((((h.sa _ _ (by decide)).sa _ _ (by decide)).sa _ _ (by decide)).copy _ _ _).sf _ (by decide) (by decide)
theorem sm_uM.evl (h : sm_uM v w) (e F c : Nat) : sm_uM v (ms_evl w e F c) := by
  unfold ms_evl
  split
  · exact h.gb _ _
  · split
    · split
      · exact h.sf _ (by decide) (by decide)
      · exact h.gb _ _
    · split
      · exact ((h.sa _ _ (by decide)).copy _ _ _).gb _ _
      · split
        · exact (h.push _ _ _ _ _).ei _ _
        · split
          · exact (h.push _ _ _ _ _).ei _ _
          · exact (h.push _ _ _ _ _).ei _ _
theorem sm_uM.bk (h : sm_uM v w) (f c e a b : Nat) (hz : tm_b1 (w.1 10)) : sm_uM v (ms_bk w f c e a b) := by
  unfold ms_bk
  split
  · split
    · exact h.sf _ (by decide) (by decide)
    · have h1 : sm_uM v (ms_ap1 (tm_sf w 11 (nI f)) c a (w.1 9) (w.1 10)) := ((h.sf _ (by decide) (by decide)).copy _ _ _).give _ _ _ _ (fun _ => hz)
      unfold ms_apx ms_app
      split
      · exact h1.ei _ _
      · exact (h1.give _ _ _ _ (fun _ => Or.inr rfl)).ei _ _
  · split
    · split
      · exact h.sf _ (by decide) (by decide)
      · exact (h.sf _ (by decide) (by decide)).gb _ _
    · split
      · split
        · exact h.sf _ (by decide) (by decide)
        · exact (h.sf _ (by decide) (by decide)).ei _ _
      · exact (((h.sa _ _ (by decide)).sa _ _ (by decide)).sa _ _ (by decide)).ei _ _
end SMU
/-- an action's ends, both sides -/
def sm_O (n : Nat) (u : tm_SC) (P : tm_SC → Prop) (PX : String → tm_SC → Prop) (v1 : tm_SC) : Prop :=
  (∀ w, P w → v1.1 12 = 0 ∧ ∃ L F, F ≤ 120 ∧ sm_P n L w v1 F) ∧
  (∀ E w, PX E w → w = tm_sf u 1 3 ∧ ((E = "java/util/NoSuchElementException" ∧ v1.1 12 = 2) ∨ (E = "java/lang/UnsupportedOperationException" ∧ v1.1 12 = 3) ∨ (E = "java/lang/IllegalStateException" ∧ v1.1 12 = 0 ∧ ∃ L, sm_N L v1 121))) ∧ ((∃ w, P w) ∨ ∃ E w, PX E w)
theorem sm_wN.keep {L : Nat → Prop} {v v' : tm_SC} {r r' g z j : Nat} (h : sm_wN L v j) (b : sm_kM r r' g z v v') (hj : j ≠ r ∧ j ≠ r') : sm_wN L v' j := by
  obtain ⟨m, h1, h3, h4⟩ := h
  obtain ⟨b1, b2⟩ := b.2.2.2.2 j hj.1 hj.2
  exact ⟨m, h1, b1.trans h3, fun k hk q => by rw [(b2 k hk).1, (b2 k hk).2]; exact h4 k hk q⟩
theorem sm_wN.rr {L : Nat → Prop} {v v' : tm_SC} {j j' : Nat} {x : Int32} (h : sm_wN L v j) (b : sm_rM v j v' j' x) (hx : ∃ m, m < 256 ∧ x = nI m) : sm_wN L v' j' := by
  obtain ⟨m, h1, h3, h4⟩ := h
  obtain ⟨mx, h5, h6⟩ := hx
  refine ⟨m &&& mx, sm_and_lt h1, by rw [b.1, h3, h6, sm_and], fun k hk q => ?_⟩
  rw [Nat.testBit_and, Bool.and_eq_true] at q
  rw [(b.2 k hk).1, (b.2 k hk).2]
  exact h4 k hk q.1
theorem sm_121 {L : Nat → Prop} {v : tm_SC} {a : Nat} {kd x y m : Int32} (h : sm_N L v 120) (hw : sm_wN L v 0) (hk : kd = 0 ∨ kd = 2 ∨ kd = 4) (hm : ∃ x, x < 256 ∧ m = nI x) (ha : ∃ x, x < 256 ∧ v.2.1 4 a = nI x) : sm_N L (ms_ei (ms_push v 120 kd x y m) 0 a) 121 := by
  have k1 : sm_kM 0 121 120 999 v (ms_ei (ms_push v 120 kd x y m) 0 a) := (((((((sm_kM.rf.sa _ (Or.inl ⟨by decide, rfl⟩)).sa _ (Or.inl ⟨by decide, rfl⟩)).sa _ (Or.inl ⟨by decide, rfl⟩)).copy _ (Or.inr rfl)).sf _ (by decide) (by decide)).copy _ (Or.inl rfl)).sf _ (by decide) (by decide)).sf _ (by decide) (by decide)
  have k2 : sm_kM 121 121 120 999 v (ms_push v 120 kd x y m) := ((((sm_kM.rf.sa _ (Or.inl ⟨by decide, rfl⟩)).sa _ (Or.inl ⟨by decide, rfl⟩)).sa _ (Or.inl ⟨by decide, rfl⟩)).copy _ (Or.inr rfl)).sf _ (by decide) (by decide)
  have k3 : sm_kM 0 0 999 999 (ms_push v 120 kd x y m) (ms_ei (ms_push v 120 kd x y m) 0 a) := ((sm_kM.rf.copy _ (Or.inl rfl)).sf _ (by decide) (by decide)).sf _ (by decide) (by decide)
  have hw1 := hw.keep k2 (by decide)
  have e4 : (ms_push v 120 kd x y m).2.1 4 = v.2.1 4 := k2.2.1 4 (by decide)
  refine ⟨?_, Or.inl ⟨ms_ei_7 _ _ _, ?_⟩, fun f hf => ?_, fun c hc hL => (h.2.2.2 c hc hL).keep k1 (by omega)⟩
  · rw [ms_ei_f _ _ _ (by decide) (by decide)]; rfl
  · exact hw1.rr (ms_ei_r _ _ _) (by rw [e4]; exact ha)
  · by_cases ef : f = 120
    · subst ef
      have e12 : (ms_ei (ms_push v 120 kd x y m) 0 a).2.1 12 120 = kd := by
        rw [k3.2.2.1 120 (by decide) 12 (by decide) (by decide)]
        show (ms_copy (tm_sa (tm_sa (tm_sa v 12 120 kd) 13 120 x) 14 120 y) 0 (1 + 120) m).2.1 12 120 = kd
        rw [ms_copy_a _ _ _ _ (by decide) (by decide) (by decide)]
        show upd (v.2.1 12) 120 kd 120 = kd
        rw [pk_us]
      refine Or.inl ⟨?_, ?_⟩
      · rw [e12]
        rcases hk with q | q | q <;> rw [q] <;> decide
      · have hr : sm_rM (tm_sa (tm_sa (tm_sa v 12 120 kd) 13 120 x) 14 120 y) 0 (ms_push v 120 kd x y m) 121 m := sm_copyM (tm_sa (tm_sa (tm_sa v 12 120 kd) 13 120 x) 14 120 y) 0 (1 + 120) m
        exact (sm_wN.rr (v := tm_sa (tm_sa (tm_sa v 12 120 kd) 13 120 x) 14 120 y) hw hr hm).keep k3 (by decide)
    · have b1 := k1.2.2.1 f ef
      rw [b1 12 (by decide) (by decide), b1 15 (by decide) (by decide), b1 16 (by decide) (by decide)]
      exact (h.2.2.1 f (by omega)).imp (fun q => ⟨q.1, q.2.keep k1 (by omega)⟩) id
theorem sm_vi {x : Int32} {n : Nat} (h : vp_in x n) (hn : n ≤ 100) : ∃ j, j < n ∧ x = nI j ∧ x.toNatClampNeg = j := by
  obtain ⟨j, h1, h2⟩ := vp_in_of h (by omega)
  exact ⟨j, h1, h2, by rw [h2]; exact nI_clamp (by omega)⟩
theorem sm_evO {n e F c : Nat} {L : Nat → Prop} {u v : tm_SC} (hA : sm_A n u v) (hP : sm_Q n L u v F) (hF : F ≤ 120) (hw : sm_W L u v 0 0) (h7 : v.1 7 = 0) (h12 : v.1 12 = 0) (he : e < n) (hS : ∀ c, c < 120 → (u.2.1 10 c = 0 ↔ v.2.1 10 c = 0))
    (hc : c < 120 ∧ v.2.1 10 c = 0 ∧ ∀ j, j < c → ¬ v.2.1 10 j = 0) : sm_O n u (cs_evP u e F) (cs_evX u e F) (ms_evl v e F c) := by
  obtain ⟨⟨x0, x4, x5, x2⟩, hmk, -, hX⟩ := hA.2.2.2 e he
  have hn := hA.1
  have uC : u.2.1 10 c = 0 := (hS c hc.1).mpr hc.2.1
  have uJ : ∀ j, j < c → ¬ u.2.1 10 j = 0 := fun j hj q => hc.2.2 j hj ((hS j (by omega)).mp q)
  unfold sm_O cs_evP cs_evX
  rw [x0]
  rcases hX with ⟨k0, e1⟩ | ⟨k0, e1, e8⟩ | ⟨k0, e1, e3, v2, v3, hs⟩ | ⟨k0, e1, e3, v1, v2, v3⟩
  · have ev : ms_evl v e F c = ms_gb v (v.2.1 1 e) 0 := if_pos k0
    rw [ev, k0]
    refine ⟨fun w h => ?_, fun E w h => ?_, Or.inl ⟨_, Or.inl ⟨rfl, rfl⟩⟩⟩
    · rcases h with ⟨-, rfl⟩ | ⟨q, -⟩ | ⟨q, -⟩ | ⟨q, -⟩
      · exact ⟨h12, L, F, hF, by rw [e1]; exact sm_rtn hP hF (Or.inl ⟨rfl, rfl⟩)⟩
      · exact absurd q (by decide)
      · exact absurd q (by decide)
      · exact absurd rfl q
    · rcases h.2 with ⟨-, q, -⟩ | ⟨-, q, -⟩ | ⟨-, q, -⟩
      · exact absurd q (by decide)
      · exact absurd q (by decide)
      · exact absurd rfl q
  · obtain ⟨j, hj, ej, ejc⟩ := sm_vi e8 (by decide)
    obtain ⟨m, m1, m2, m3, m4⟩ := hw
    rw [e1, ej, m2, k0, nI_clamp (by omega)]
    have hb := sm_bC m m1 j hj
    have hb0 := sm_bM0 m m1 j hj
    by_cases t : m.testBit j = true
    · have hn0 : ¬ ms_bt (v.2.1 6 0) (v.2.1 1 e) = 0 := by
        rw [m3, ej]; exact fun q => hb0.mp q t
      have ev : ms_evl v e F c = ms_gb v (v.2.1 7 j) (v.2.1 8 j) := by
        unfold ms_evl
        rw [if_neg (by rw [k0]; decide), if_pos k0, if_neg hn0, ejc]
      rw [ev]
      have hV := m4 j hj t
      rw [show 8 * 0 + j = j by omega] at hV
      refine ⟨fun w h => ?_, fun E w h => ?_, Or.inl ⟨_, Or.inr (Or.inl ⟨rfl, hb.mpr t, rfl⟩)⟩⟩
      · rcases h with ⟨q, -⟩ | ⟨-, -, rfl⟩ | ⟨q, -⟩ | ⟨-, q, -⟩
        · exact absurd q (by decide)
        · exact ⟨h12, L, F, hF, sm_rtn hP hF (by rw [show 0 * 8 + j = j by omega]; exact hV)⟩
        · exact absurd q (by decide)
        · exact absurd rfl q
      · rcases h.2 with ⟨-, -, q⟩ | ⟨-, q, -⟩ | ⟨-, -, q, -⟩
        · exact absurd q (hb.mpr t)
        · exact absurd q (by decide)
        · exact absurd rfl q
    · have hn0 : ms_bt (v.2.1 6 0) (v.2.1 1 e) = 0 := by
        rw [m3, ej]; exact hb0.mpr t
      have ev : ms_evl v e F c = tm_sf v 12 2 := by
        unfold ms_evl
        rw [if_neg (by rw [k0]; decide), if_pos k0, if_pos hn0]
      have hz : cs_bt (nI m) (nI j) = 0 := Classical.byContradiction (fun q => t (hb.mp q))
      rw [ev]
      refine ⟨fun w h => ?_, fun E w h => ?_, Or.inr ⟨_, _, rfl, Or.inl ⟨rfl, rfl, hz⟩⟩⟩
      · rcases h with ⟨q, -⟩ | ⟨-, q, -⟩ | ⟨q, -⟩ | ⟨-, q, -⟩
        · exact absurd q (by decide)
        · exact absurd hz q
        · exact absurd q (by decide)
        · exact absurd rfl q
      · refine ⟨h.1, ?_⟩
        rcases h.2 with ⟨q, -⟩ | ⟨-, q, -⟩ | ⟨-, -, q, -⟩
        · exact Or.inl ⟨q, rfl⟩
        · exact absurd q (by decide)
        · exact absurd rfl q
  · have ev : ms_evl v e F c = ms_clo v e c := by
      unfold ms_evl
      rw [if_neg (by rw [k0]; decide), if_neg (by rw [k0]; decide), if_pos k0]
    have h12' : (ms_clo v e c).1 12 = 0 := by
      have := (sm_kM.copy (r := 130 + c) (r' := 130 + c) (g := 999) (z := c) (sm_kM.rf.sa (v := v) (nI e) (a := 9) (i := c) (Or.inr (Or.inl ⟨rfl, rfl⟩))) (i := 0) (v.2.1 4 e) (Or.inl rfl)).1 12 (by decide)
      unfold ms_clo ms_gb tm_sf
      dsimp only
      rw [pk_un (by decide), pk_un (by decide), pk_un (by decide), this]; exact h12
    rw [ev, k0]
    refine ⟨fun w h => ?_, fun E w h => ?_, Or.inl ⟨_, Or.inr (Or.inr (Or.inl ⟨rfl, c, hc.1, uC, uJ, rfl⟩))⟩⟩
    · rcases h with ⟨q, -⟩ | ⟨q, -⟩ | ⟨-, k, hk, hk0, hkj, rfl⟩ | ⟨-, -, q, -⟩
      · exact absurd q (by decide)
      · exact absurd q (by decide)
      · have ek : k = c := by
          rcases Nat.lt_trichotomy k c with z | z | z
          · exact absurd hk0 (uJ k z)
          · exact z
          · exact absurd uC (hkj c z)
        rw [ek]
        exact ⟨h12', _, F, hF, sm_clo2 hA hP hF hw he k0 hc.1⟩
      · exact absurd rfl q
    · rcases h.2 with ⟨-, q, -⟩ | ⟨-, -, q⟩ | ⟨-, -, -, q, -⟩
      · exact absurd q (by decide)
      · exact absurd uC (q c hc.1)
      · exact absurd rfl q
  · obtain ⟨a, ha, ea, eac⟩ := sm_vi v1 hn
    obtain ⟨b, hb, eb, ebc⟩ := sm_vi v2 hn
    have hb4 : (u.2.1 4 b = v.2.1 4 b) ∧ ∃ x, x < 256 ∧ v.2.1 4 b = nI x := ⟨(hA.2.2.2 b hb).1.2.1, (hA.2.2.2 b hb).2.1⟩
    have n0 : ¬ v.2.1 0 e = 0 := by rcases k0 with q | q | q <;> rw [q] <;> decide
    have n1 : ¬ v.2.1 0 e = 1 := by rcases k0 with q | q | q <;> rw [q] <;> decide
    have n2 : ¬ v.2.1 0 e = 2 := by rcases k0 with q | q | q <;> rw [q] <;> decide
    have key : ∃ (y m : Int32), ms_evl v e F c = ms_ei (ms_push v F (cs_kd (v.2.1 0 e)) (v.2.1 2 e) y m) 0 a ∧ cs_mk u e = m ∧ (∃ x, x < 256 ∧ m = nI x) ∧ ((cs_kd (v.2.1 0 e) = 0 ∧ v.2.1 0 e = 3) ∨ (cs_kd (v.2.1 0 e) = 2 ∧ v.2.1 0 e = 4 ∧ y = v.2.1 3 e) ∨ (cs_kd (v.2.1 0 e) = 4 ∧ v.2.1 0 e = 5 ∧ y = v.2.1 3 e)) := by
      unfold ms_evl cs_mk cs_kd
      rw [if_neg n0, if_neg n1, if_neg n2, x0, x2, eac, ebc, e3]
      rcases k0 with q | q | q
      · refine ⟨0, v.2.1 4 b, ?_, ?_, hb4.2, Or.inl ⟨?_, q⟩⟩
        · rw [if_pos q, if_pos q]
        · rw [if_pos (Or.inl q)]; exact hb4.1
        · rw [if_pos q]
      · have q3 : ¬ v.2.1 0 e = 3 := by rw [q]; decide
        refine ⟨v.2.1 3 e, v.2.1 4 b, ?_, ?_, hb4.2, Or.inr (Or.inl ⟨?_, q, rfl⟩)⟩
        · rw [if_neg q3, if_pos q, if_neg q3, if_pos q]
        · rw [if_pos (Or.inr q)]; exact hb4.1
        · rw [if_neg q3, if_pos q]
      · have q3 : ¬ v.2.1 0 e = 3 := by rw [q]; decide
        have q4 : ¬ v.2.1 0 e = 4 := by rw [q]; decide
        obtain ⟨d, hd, ed, edc⟩ := sm_vi (v3 q) hn
        obtain ⟨x, hx1, hx2⟩ := hb4.2
        obtain ⟨⟨-, d4, -⟩, ⟨y, hy1, hy2⟩, -⟩ := hA.2.2.2 d hd
        refine ⟨v.2.1 3 e, v.2.1 4 b ||| v.2.1 4 d, ?_, ?_, ⟨x ||| y, sm_or_lt hx1 hy1, by rw [hx2, hy2, sm_or]⟩, Or.inr (Or.inr ⟨?_, q, rfl⟩)⟩
        · rw [if_neg q3, if_neg q4, if_neg q3, if_neg q4, edc]
        · rw [if_neg (fun z => z.elim q3 q4), edc, hb4.1, d4]
        · rw [if_neg q3, if_neg q4]
    obtain ⟨y, m, ev, em, hm, hk⟩ := key
    have h12' : (ms_ei (ms_push v F (cs_kd (v.2.1 0 e)) (v.2.1 2 e) y m) 0 a).1 12 = 0 := by
      rw [ms_ei_f _ _ _ (by decide) (by decide)]
      unfold ms_push tm_sf
      dsimp only
      rw [pk_un (by decide), ms_copy_f]; exact h12
    rw [ev, em, e1, eac]
    by_cases hF2 : F < 120
    · refine ⟨fun w h => ?_, fun E w h => ?_, Or.inl ⟨_, Or.inr (Or.inr (Or.inr ⟨n0, n1, n2, hF2, rfl⟩))⟩⟩
      · rcases h with ⟨q, -⟩ | ⟨q, -⟩ | ⟨q, -⟩ | ⟨-, -, -, -, rfl⟩
        · exact absurd q n0
        · exact absurd q n1
        · exact absurd q n2
        · obtain ⟨p1, p2, p3⟩ := sm_pushC (kd := cs_kd (v.2.1 0 e)) (m := m) (y := y) hA hP hF2 hw he hk hm
          exact ⟨h12', L, F + 1, by omega, sm_go p3 p1 (by omega) p2 ha⟩
      · rcases h.2 with ⟨-, q, -⟩ | ⟨-, q, -⟩ | ⟨-, -, -, -, q⟩
        · exact absurd q n1
        · exact absurd q n2
        · omega
    · have hF3 : F = 120 := by omega
      subst hF3
      have hN : sm_N L v 120 := by
        have hM := sm_P.M (n := n) (L := L) (u := tm_sf (tm_sf u 6 1) 7 (nI e)) (v := tm_sf v 8 (nI e)) (F := 120) ⟨hP.keep (by omega) ((sm_kC.rf.sf _ (by decide)).sf _ (by decide)) (sm_kM.rf.sf _ (by decide) (by decide)) rfl rfl, Or.inl ⟨rfl, h7, ⟨e, he, rfl, rfl⟩, hw⟩⟩
        exact hM.N
      refine ⟨fun w h => ?_, fun E w h => ⟨h.1, ?_⟩, Or.inr ⟨_, _, rfl, Or.inr (Or.inr ⟨rfl, n0, n1, n2, rfl⟩)⟩⟩
      · rcases h with ⟨q, -⟩ | ⟨q, -⟩ | ⟨q, -⟩ | ⟨-, -, -, q, -⟩
        · exact absurd q n0
        · exact absurd q n1
        · exact absurd q n2
        · omega
      · rcases h.2 with ⟨-, q, -⟩ | ⟨-, q, -⟩ | ⟨q, -⟩
        · exact absurd q n1
        · exact absurd q n2
        · exact Or.inr (Or.inr ⟨q, h12', L, sm_121 hN hw.N (by rcases hk with z | z | z <;> rw [z.1] <;> decide) hm (hA.2.2.2 a ha).2.1⟩)
