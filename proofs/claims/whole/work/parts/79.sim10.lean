/-! both sides side by side: every call -/
def sm_J (u v : tm_SC) : Prop := ∃ n, sm_S n u v
theorem sm_v1 {x : Int32} {n : Nat} (h : vp_in x n) (hn : n ≤ 100) : vp_in x (n + 1) := tm_v100 h (by omega) (by omega)
theorem sm_P.more {n F : Nat} {L : Nat → Prop} {u v u' v' : tm_SC} (h : sm_P n L u v F) (a : ∀ j, 6 ≤ j → u'.2.1 j = u.2.1 j) (a2 : u'.2.2 = u.2.2) (a3 : ∀ j, j ≤ 10 → u'.1 j = u.1 j) (b : ∀ j, 6 ≤ j → v'.2.1 j = v.2.1 j) (b3 : ∀ j, 1 ≤ j → j ≤ 12 → v'.1 j = v.1 j) (b4 : ∀ j e, e < n → v'.2.1 j e = v.2.1 j e) : sm_P (n + 1) L u' v' F := by
  have hw : ∀ i j, sm_W L u v i j → sm_W L u' v' i j := fun i j q => by
    unfold sm_W
    rw [a 8 (by decide), a2, b 6 (by decide), b 7 (by decide), b 8 (by decide)]; exact q
  have h1 : ∀ i x y, sm_1 L u i x y → sm_1 L u' i x y := fun i x y q => by
    unfold sm_1
    rw [a 8 (by decide), a2]; exact q
  refine ⟨⟨⟨(a3 0 (by decide)).trans h.1.1.1, (b3 11 (by decide) (by decide)).trans h.1.1.2⟩, fun f hf => ?_, fun c hc hL => ?_⟩, ?_⟩
  · obtain ⟨e, e1, e2, e3, e4⟩ := h.1.2.1 f hf
    refine ⟨e, by omega, by rw [a 7 (by decide)]; exact e2, by rw [a 6 (by decide), b 12 (by decide)]; exact e3, ?_⟩
    rw [b 12 (by decide), b 13 (by decide), b 14 (by decide), b 15 (by decide), b 16 (by decide), b4 0 e e1, b4 2 e e1, b4 3 e e1]
    exact e4.imp (fun q => ⟨q.1, q.2.1, hw _ _ q.2.2⟩) (fun q => ⟨q.1, h1 _ _ _ q.2⟩)
  · obtain ⟨e, e1, e2, e3, e4, e5⟩ := h.1.2.2 c hc hL
    exact ⟨e, by omega, by rw [a 9 (by decide)]; exact e2, by rw [b 9 (by decide)]; exact e3, by rw [b4 0 e e1]; exact e4, hw _ _ e5⟩
  · unfold sm_md
    rw [a3 6 (by decide), a3 7 (by decide), b3 7 (by decide) (by decide), b3 8 (by decide) (by decide), b3 9 (by decide) (by decide), b3 10 (by decide) (by decide)]
    exact h.2.imp (fun q => ⟨q.1, q.2.1, q.2.2.1.imp (fun e z => ⟨by omega, z.2⟩), hw _ _ q.2.2.2⟩) (fun q => ⟨q.1, q.2.1, h1 _ _ _ q.2.2⟩)
theorem sm_X.more {n : Nat} {u v u' v' : tm_SC} {e : Nat} (h : sm_X n u v e) (hn : n ≤ 100) (a : ∀ j, u'.2.1 j e = u.2.1 j e) (b : ∀ j, v'.2.1 j e = v.2.1 j e) : sm_X (n + 1) u' v' e := by
  unfold sm_X
  rw [a 0, a 1, a 2, a 3, a 4, a 5, b 0, b 1, b 2, b 3, b 4, b 5]
  obtain ⟨h1, h2, h3, h4⟩ := h
  refine ⟨h1, h2, h3, ?_⟩
  rcases h4 with q | q | ⟨q1, q2, q3, q4, q5, q6⟩ | ⟨q1, q2, q3, q4, q5, q6⟩
  · exact Or.inl q
  · exact Or.inr (Or.inl q)
  · exact Or.inr (Or.inr (Or.inl ⟨q1, q2, q3, q4, sm_v1 q5 hn, q6⟩))
  · exact Or.inr (Or.inr (Or.inr ⟨q1, q2, q3, sm_v1 q4 hn, sm_v1 q5 hn, fun z => sm_v1 (q6 z) hn⟩))
theorem cs_add_a (u : tm_SC) (n : Nat) (k a b c f h : Int32) {j e : Nat} (hj : 6 ≤ j ∨ e ≠ n) : (cs_add u n k a b c f h).2.1 j e = u.2.1 j e := by
  show (tm_sa (tm_sa (tm_sa (tm_sa (tm_sa (tm_sa u 0 n k) 1 n a) 2 n b) 3 n c) 4 n f) 5 n h).2.1 j e = _
  rw [sm_sa _ _ _ _ _ _ (by omega), sm_sa _ _ _ _ _ _ (by omega), sm_sa _ _ _ _ _ _ (by omega), sm_sa _ _ _ _ _ _ (by omega), sm_sa _ _ _ _ _ _ (by omega), sm_sa _ _ _ _ _ _ (by omega)]
theorem ms_add_a (u : tm_SC) (n : Nat) (k a b c f h : Int32) {j e : Nat} (hj : 6 ≤ j ∨ e ≠ n) : (ms_add u n k a b c f h).2.1 j e = u.2.1 j e := by
  show (tm_sa (tm_sa (tm_sa (tm_sa (tm_sa (tm_sa (tm_sf u 13 0) 0 n k) 1 n a) 2 n b) 3 n c) 4 n f) 5 n h).2.1 j e = _
  rw [sm_sa _ _ _ _ _ _ (by omega), sm_sa _ _ _ _ _ _ (by omega), sm_sa _ _ _ _ _ _ (by omega), sm_sa _ _ _ _ _ _ (by omega), sm_sa _ _ _ _ _ _ (by omega), sm_sa _ _ _ _ _ _ (by omega)]
  rfl
theorem cs_add_n (u : tm_SC) (n : Nat) (k a b c f h : Int32) : (cs_add u n k a b c f h).2.1 0 n = k ∧ (cs_add u n k a b c f h).2.1 1 n = a ∧ (cs_add u n k a b c f h).2.1 2 n = b ∧ (cs_add u n k a b c f h).2.1 3 n = c ∧ (cs_add u n k a b c f h).2.1 4 n = f ∧ (cs_add u n k a b c f h).2.1 5 n = h := by
  refine ⟨?_, ?_, ?_, ?_, ?_, ?_⟩
  · show upd (u.2.1 0) n k n = k
    exact pk_us
  · show upd (u.2.1 1) n a n = a
    exact pk_us
  · show upd (u.2.1 2) n b n = b
    exact pk_us
  · show upd (u.2.1 3) n c n = c
    exact pk_us
  · show upd (u.2.1 4) n f n = f
    exact pk_us
  · show upd (u.2.1 5) n h n = h
    exact pk_us
theorem ms_add_n (u : tm_SC) (n : Nat) (k a b c f h : Int32) : (ms_add u n k a b c f h).2.1 0 n = k ∧ (ms_add u n k a b c f h).2.1 1 n = a ∧ (ms_add u n k a b c f h).2.1 2 n = b ∧ (ms_add u n k a b c f h).2.1 3 n = c ∧ (ms_add u n k a b c f h).2.1 4 n = f ∧ (ms_add u n k a b c f h).2.1 5 n = h := by
  refine ⟨?_, ?_, ?_, ?_, ?_, ?_⟩
  · show upd (u.2.1 0) n k n = k
    exact pk_us
  · show upd (u.2.1 1) n a n = a
    exact pk_us
  · show upd (u.2.1 2) n b n = b
    exact pk_us
  · show upd (u.2.1 3) n c n = c
    exact pk_us
  · show upd (u.2.1 4) n f n = f
    exact pk_us
  · show upd (u.2.1 5) n h n = h
    exact pk_us
/-- what a new expression must be -/
def sm_nw (n : Nat) (k a b c a' c' f h : Int32) : Prop := (∃ m, m < 256 ∧ f = nI m) ∧ (∃ x, x ≤ 10 ∧ h = nI x) ∧
  ((k = 0 ∧ a = a') ∨ (k = 1 ∧ a = a' ∧ vp_in a' 8) ∨ (k = 2 ∧ a = c' ∧ c = a' ∧ vp_in b 8 ∧ vp_in c' n ∧ (a' = -1 ∨ vp_in a' 8)) ∨ ((k = 3 ∨ k = 4 ∨ k = 5) ∧ a = a' ∧ c = c' ∧ vp_in a' n ∧ vp_in b n ∧ (k = 5 → vp_in c' n)))
theorem sm_addS {n : Nat} {u v : tm_SC} (hS : sm_S n u v) (hn : n < 100) {k a b c a' c' f h : Int32} (hw : sm_nw n k a b c a' c' f h) : sm_S (n + 1) (cs_add u n k a b c f h) (ms_add v n k a' b c' f h) := by
  obtain ⟨hA, ⟨y1, y3, y5, yL, y9, y8⟩, hG, hE⟩ := hS
  have ca : ∀ j, 6 ≤ j → (cs_add u n k a b c f h).2.1 j = u.2.1 j := fun j hj => funext (fun e => cs_add_a u n k a b c f h (Or.inl hj))
  have ma : ∀ j, 6 ≤ j → (ms_add v n k a' b c' f h).2.1 j = v.2.1 j := fun j hj => funext (fun e => ms_add_a v n k a' b c' f h (Or.inl hj))
  have cf : ∀ j, j ≠ 11 → (cs_add u n k a b c f h).1 j = u.1 j := fun j hj => pk_un hj
  have mf : ∀ j, j ≠ 0 → j ≠ 13 → (ms_add v n k a' b c' f h).1 j = v.1 j := fun j h1 h2 => (pk_un h1).trans (pk_un h2)
  refine ⟨⟨hn, rfl, rfl, fun e he => ?_⟩, ⟨?_, ?_, ?_, ?_, ?_, fun m => ?_⟩, fun q => ?_, fun q => ?_⟩
  · by_cases ee : e = n
    · subst ee
      obtain ⟨c0, c1, c2, c3, c4, c5⟩ := cs_add_n u e k a b c f h
      obtain ⟨m0, m1, m2, m3, m4, m5⟩ := ms_add_n v e k a' b c' f h
      unfold sm_X
      rw [c0, c1, c2, c3, c4, c5, m0, m1, m2, m3, m4, m5]
      refine ⟨⟨rfl, rfl, rfl, rfl⟩, hw.1, hw.2.1, ?_⟩
      rcases hw.2.2 with q | q | ⟨q1, q2, q3, q4, q5, q6⟩ | ⟨q1, q2, q3, q4, q5, q6⟩
      · exact Or.inl q
      · exact Or.inr (Or.inl q)
      · exact Or.inr (Or.inr (Or.inl ⟨q1, q2, q3, q4, sm_v1 q5 (by omega), q6⟩))
      · exact Or.inr (Or.inr (Or.inr ⟨q1, q2, q3, sm_v1 q4 (by omega), sm_v1 q5 (by omega), fun z => sm_v1 (q6 z) (by omega)⟩))
    · exact (hA.2.2.2 e (by omega)).more (by omega) (fun j => cs_add_a u n k a b c f h (Or.inr ee)) (fun j => ms_add_a v n k a' b c' f h (Or.inr ee))
  · rw [cf 1 (by decide), mf 1 (by decide) (by decide)]; exact y1
  · rw [cf 3 (by decide), mf 3 (by decide) (by decide)]; exact y3
  · rw [cf 5 (by decide), mf 4 (by decide) (by decide)]; exact y5
  · exact yL.cp (cf 10 (by decide)) (ca 10 (by decide)) (ca 11 (by decide))
  · rw [cf 9 (by decide)]; exact y9
  · rw [ma 8 (by decide)]; exact y8 m
  · rw [cf 1 (by decide)] at q
    obtain ⟨F, sp, cap, g1, g2, g3⟩ := hG q
    refine ⟨F, sp, cap, g1, ?_, ?_⟩
    · rw [ca 10 (by decide)]
      exact g2.more ca rfl (fun j hj => cf j (by omega)) ma (fun j h1 h2 => mf j (by omega) (by omega)) (fun j e he => ms_add_a v n k a' b c' f h (Or.inr (by omega)))
    · rw [ca 10 (by decide), ma 10 (by decide), cf 2 (by decide), cf 4 (by decide), cf 10 (by decide), mf 2 (by decide) (by decide), mf 5 (by decide) (by decide), mf 6 (by decide) (by decide)]; exact g3
  · rw [cf 1 (by decide)] at q
    have := hE q
    unfold sm_EN
    rw [cf 8 (by decide), cf 9 (by decide), mf 9 (by decide) (by decide), mf 10 (by decide) (by decide), ma 9 (by decide)]; exact this
/-- making an expression: both refuse alike, or both make the same -/
theorem sm_mkS {n : Nat} {u v : tm_SC} (hS : sm_S n u v) {g k a b c a' c' f f' h h' : Int32} {bad : Prop} (hb : bad ↔ (g = 0 ∨ 10 < h')) (hok : ¬ bad → f = f' ∧ h = h' ∧ sm_nw n k a b c a' c' f' h') :
    (¬ bad → n < 100 → (ms_mkU v n g k a' b c' f' h').1 13 = 0 ∧ nI n = ms_mkR n g h' ∧ sm_J (cs_add u n k a b c f h) (ms_mkU v n g k a' b c' f' h')) ∧
    (bad → (ms_mkU v n g k a' b c' f' h').1 13 = 1 ∧ sm_J u (ms_mkU v n g k a' b c' f' h')) ∧ (¬ bad → n = 100 → (ms_mkU v n g k a' b c' f' h').1 13 = 2 ∧ sm_J u (ms_mkU v n g k a' b c' f' h')) := by
  refine ⟨fun h1 h2 => ?_, fun h1 => ?_, fun h1 h2 => ?_⟩
  · have e : ms_mkT n g h' = 0 := by
      unfold ms_mkT
      rw [if_neg (fun q => h1 (hb.mpr q)), if_neg (by omega)]
    have e2 : ms_mkU v n g k a' b c' f' h' = ms_add v n k a' b c' f' h' := if_pos e
    have e3 : ms_mkR n g h' = nI n := if_pos e
    obtain ⟨o1, o2, o3⟩ := hok h1
    rw [e2, e3, o1, o2]
    exact ⟨rfl, rfl, n + 1, sm_addS hS h2 o3⟩
  · have e : ms_mkT n g h' = 1 := if_pos (hb.mp h1)
    have e2 : ms_mkU v n g k a' b c' f' h' = tm_sf v 13 1 := by
      unfold ms_mkU
      rw [if_neg (by rw [e]; decide), e]
    rw [e2]
    exact ⟨rfl, n, hS.s13 1⟩
  · have e : ms_mkT n g h' = 2 := by
      unfold ms_mkT
      rw [if_neg (fun q => h1 (hb.mpr q)), if_pos h2]
    have e2 : ms_mkU v n g k a' b c' f' h' = tm_sf v 13 2 := by
      unfold ms_mkU
      rw [if_neg (by rw [e]; decide), e]
    rw [e2]
    exact ⟨rfl, n, hS.s13 2⟩
-- parts of a new expression
theorem sm_np {n : Nat} {u v : tm_SC} (hA : sm_A n u v) (e : Int32) : cs_np u e ↔ ms_np v e := by
  unfold cs_np ms_np
  rw [hA.2.1, hA.2.2.1]
theorem sm_pt {n : Nat} {u v : tm_SC} (hA : sm_A n u v) {e : Int32} (h : ¬ ms_np v e) : ∃ i a m, i < n ∧ e = nI i ∧ e.toNatClampNeg = i ∧ a ≤ 10 ∧ m < 256 ∧ u.2.1 5 e.toNatClampNeg = nI a ∧ v.2.1 5 e.toNatClampNeg = nI a ∧ u.2.1 4 e.toNatClampNeg = nI m ∧ v.2.1 4 e.toNatClampNeg = nI m := by
  have hv := ms_pt h hA.2.2.1 hA.1
  obtain ⟨i, h1, h2, h3⟩ := sm_vi hv hA.1
  obtain ⟨⟨-, x4, x5, -⟩, ⟨m, m1, m2⟩, ⟨a, a1, a2⟩, -⟩ := hA.2.2.2 i h1
  refine ⟨i, a, m, h1, h2, h3, a1, m1, ?_⟩
  rw [h3]
  exact ⟨x5.trans a2, a2, x4.trans m2, m2⟩
theorem sm_max {a b : Nat} (ha : a ≤ 100) (hb : b ≤ 100) : cs_mx (nI a) (nI b) = nI (max a b) ∧ ms_gr (nI a) (nI b) = nI (max a b) := by
  rw [sm_mx]
  refine ⟨?_, ?_⟩ <;>
  · unfold ms_gr
    by_cases h : a ≤ b
    · rw [if_pos ((nI_leI (by omega) (by omega)).mpr h), Nat.max_eq_right h]
    · rw [if_neg (fun q => h ((nI_leI (by omega) (by omega)).mp q)), Nat.max_eq_left (by omega)]
theorem sm_10 {a : Nat} (ha : a ≤ 200) : 10 < nI a ↔ 10 < a := nI_ltI (a := 10) (by decide) (by omega)
theorem sm_1p (a : Nat) : 1 + nI a = nI (a + 1) := by
  rw [show (1 : Int32) = nI 1 from rfl, nI_add, Nat.add_comm]
/-- the height of a part, as both see it -/
theorem sm_ht {n : Nat} {u v : tm_SC} (hA : sm_A n u v) (e : Int32) : ∃ a, a ≤ 99 ∧ ms_hi v e = nI a ∧ (cs_hb u e ↔ 10 ≤ a) ∧ (ms_np v e → a = 99) ∧ (¬ ms_np v e → a ≤ 10 ∧ u.2.1 5 e.toNatClampNeg + 1 = nI (a + 1) ∧ vp_in e n ∧ ∃ m, m < 256 ∧ u.2.1 4 e.toNatClampNeg = nI m ∧ ms_fr v e = nI m) := by
  by_cases h : ms_np v e
  · exact ⟨99, by omega, if_pos h, ⟨fun _ => by decide, fun _ => Or.inl ((sm_np hA e).mpr h)⟩, fun _ => rfl, fun q => absurd h q⟩
  · obtain ⟨i, a, m, h1, h2, h3, h4, h5, h6, h7, h8, h9⟩ := sm_pt hA h
    refine ⟨a, by omega, (if_neg h).trans h7, ?_, fun q => absurd q h, fun _ => ⟨h4, by rw [h6, nI_1], by rw [h2]; exact vp_in_nI h1 (by have := hA.1; omega), m, h5, h8, (if_neg h).trans h9⟩⟩
    unfold cs_hb
    rw [h6, nI_1, sm_10 (by omega)]
    exact ⟨fun q => q.elim (fun z => absurd ((sm_np hA e).mp z) h) (fun z => by omega), fun q => Or.inr (by omega)⟩
theorem sm_vgi {x : Int32} : (ms_vg x = 0 ↔ (x < 0 ∨ 8 ≤ x)) ∧ (¬ (x < 0 ∨ 8 ≤ x) → ms_vg x = 1 ∧ ∃ p, p < 8 ∧ x = nI p) := by
  refine ⟨tm_ite0, fun h => ⟨if_neg h, ?_⟩⟩
  have hv : vp_in x 8 := by
    rw [vp_in_iff]
    have a : ¬ x < 0 := fun q => h (Or.inl q)
    have b : ¬ 8 ≤ x := fun q => h (Or.inr q)
    rw [Int32.le_iff_toInt_le, show (8 : Int32).toInt = 8 by decide] at b
    rw [Int32.lt_iff_toInt_lt, Int32.toInt_zero] at a
    omega
  obtain ⟨p, h1, h2, -⟩ := sm_vi hv (by decide)
  exact ⟨p, h1, h2⟩
theorem sm_number {n : Nat} {u v : tm_SC} (hS : sm_S n u v) (x : Int32) :
    (n < 100 → (ms_numU v n x).1 13 = 0 ∧ nI n = ms_mkR n 1 0 ∧ sm_J (cs_add u n 0 x 0 0 0 0) (ms_numU v n x)) ∧ (n = 100 → (ms_numU v n x).1 13 = 1 ∧ sm_J u (ms_numU v n x)) := by
  obtain ⟨h1, -, h3⟩ := sm_mkS (g := 1) (k := 0) (a := x) (b := 0) (c := 0) (a' := x) (c' := 0) (f := 0) (f' := 0) (h := 0) (h' := 0) (bad := False) hS ⟨False.elim, by decide⟩ (fun _ => ⟨rfl, rfl, ⟨0, by decide, rfl⟩, ⟨0, by decide, rfl⟩, Or.inl ⟨rfl, rfl⟩⟩)
  unfold ms_numU
  refine ⟨fun q => ?_, fun q => ?_⟩
  · obtain ⟨a1, a2, m, a3⟩ := h1 id q
    rw [a1, if_neg (by decide)]
    exact ⟨rfl, a2, m, a3.s13 0⟩
  · obtain ⟨a1, m, a3⟩ := h3 id q
    rw [a1, if_pos rfl]
    exact ⟨rfl, m, a3.s13 1⟩
theorem sm_variable {n : Nat} {u v : tm_SC} (hS : sm_S n u v) (x : Int32) :
    (¬ (x < 0 ∨ 8 ≤ x) → n < 100 → (ms_varU v n x).1 13 = 0 ∧ nI n = ms_mkR n (ms_vg x) 0 ∧ sm_J (cs_add u n 1 x 0 0 (1 <<< (x &&& 31)) 0) (ms_varU v n x)) ∧
    ((x < 0 ∨ 8 ≤ x) → (ms_varU v n x).1 13 = 1 ∧ sm_J u (ms_varU v n x)) ∧ (¬ (x < 0 ∨ 8 ≤ x) → n = 100 → (ms_varU v n x).1 13 = 2 ∧ sm_J u (ms_varU v n x)) := by
  unfold ms_varU
  refine sm_mkS (bad := x < 0 ∨ 8 ≤ x) hS ⟨fun q => Or.inl (sm_vgi.1.mpr q), fun q => q.elim sm_vgi.1.mp (fun z => absurd z (by decide))⟩ (fun q => ?_)
  obtain ⟨g1, p, hp, rfl⟩ := sm_vgi.2 q
  rw [g1, if_neg (by decide)]
  exact ⟨rfl, rfl, ⟨2 ^ p, (sm_shl p hp).2, (sm_shl p hp).1⟩, ⟨0, by decide, rfl⟩, Or.inr (Or.inl ⟨rfl, rfl, vp_in_nI hp (by decide)⟩)⟩
theorem sm_call {n : Nat} {u v : tm_SC} (hS : sm_S n u v) (f x : Int32) :
    (¬ (cs_hb u f ∨ cs_hb u x) → n < 100 → (ms_calU v n f x).1 13 = 0 ∧ nI n = ms_mkR n (ms_cg v f x) (1 + ms_gr (ms_hi v f) (ms_hi v x)) ∧ sm_J (cs_add u n 3 f x 0 (u.2.1 4 f.toNatClampNeg ||| u.2.1 4 x.toNatClampNeg) (cs_mx (u.2.1 5 f.toNatClampNeg + 1) (u.2.1 5 x.toNatClampNeg + 1))) (ms_calU v n f x)) ∧
    ((cs_hb u f ∨ cs_hb u x) → (ms_calU v n f x).1 13 = 1 ∧ sm_J u (ms_calU v n f x)) ∧ (¬ (cs_hb u f ∨ cs_hb u x) → n = 100 → (ms_calU v n f x).1 13 = 2 ∧ sm_J u (ms_calU v n f x)) := by
  have hA := hS.1
  obtain ⟨a, a1, a2, a3, a4, a5⟩ := sm_ht hA f
  obtain ⟨b, b1, b2, b3, b4, b5⟩ := sm_ht hA x
  have hm := (sm_max (a := a) (b := b) (by omega) (by omega)).2
  unfold ms_calU
  rw [a2, b2, hm, sm_1p]
  refine sm_mkS (bad := cs_hb u f ∨ cs_hb u x) hS ?_ (fun q => ?_)
  · rw [a3, b3, sm_10 (by omega)]
    unfold ms_cg
    rw [tm_ite0]
    exact ⟨fun q => Or.inr (by omega), fun q => q.elim (fun z => z.imp (fun y => by rw [a4 y]; decide) (fun y => by rw [b4 y]; decide)) (fun z => by omega)⟩
  · rw [a3, b3] at q
    have n1 : ¬ ms_np v f := fun z => by have := a4 z; omega
    have n2 : ¬ ms_np v x := fun z => by have := b4 z; omega
    obtain ⟨-, a6, a7, m, m1, m2, m3⟩ := a5 n1
    obtain ⟨-, b6, b7, m', m1', m2', m3'⟩ := b5 n2
    rw [a6, b6, (sm_max (by omega) (by omega)).1, m2, m2', m3, m3', sm_or]
    exact ⟨rfl, congrArg nI (by omega), ⟨_, sm_or_lt m1 m1', rfl⟩, ⟨_, by omega, rfl⟩, Or.inr (Or.inr (Or.inr ⟨Or.inl rfl, rfl, rfl, a7, b7, fun z => absurd z (by decide)⟩))⟩
theorem sm_operation {n : Nat} {u v : tm_SC} (hS : sm_S n u v) (o f x : Int32) :
    (¬ ((o < 0 ∨ 4 ≤ o) ∨ cs_hb u f ∨ cs_hb u x) → n < 100 → (ms_opU v n o f x).1 13 = 0 ∧ nI n = ms_mkR n (ms_og v o f x) (1 + ms_gr (ms_hi v f) (ms_hi v x)) ∧ sm_J (cs_add u n 4 f x o (u.2.1 4 f.toNatClampNeg ||| u.2.1 4 x.toNatClampNeg) (cs_mx (u.2.1 5 f.toNatClampNeg + 1) (u.2.1 5 x.toNatClampNeg + 1))) (ms_opU v n o f x)) ∧
    (((o < 0 ∨ 4 ≤ o) ∨ cs_hb u f ∨ cs_hb u x) → (ms_opU v n o f x).1 13 = 1 ∧ sm_J u (ms_opU v n o f x)) ∧ (¬ ((o < 0 ∨ 4 ≤ o) ∨ cs_hb u f ∨ cs_hb u x) → n = 100 → (ms_opU v n o f x).1 13 = 2 ∧ sm_J u (ms_opU v n o f x)) := by
  have hA := hS.1
  obtain ⟨a, a1, a2, a3, a4, a5⟩ := sm_ht hA f
  obtain ⟨b, b1, b2, b3, b4, b5⟩ := sm_ht hA x
  have hm := (sm_max (a := a) (b := b) (by omega) (by omega)).2
  unfold ms_opU
  rw [a2, b2, hm, sm_1p]
  refine sm_mkS (bad := (o < 0 ∨ 4 ≤ o) ∨ cs_hb u f ∨ cs_hb u x) hS ?_ (fun q => ?_)
  · rw [a3, b3, sm_10 (by omega)]
    unfold ms_og
    rw [tm_ite0]
    refine ⟨fun q => ?_, fun q => ?_⟩
    · rcases q with (q | q) | q | q
      · exact Or.inl (Or.inl q)
      · exact Or.inl (Or.inr (Or.inl q))
      · exact Or.inr (by omega)
      · exact Or.inr (by omega)
    · rcases q with (q | q | q | q) | q
      · exact Or.inl (Or.inl q)
      · exact Or.inl (Or.inr q)
      · exact Or.inr (Or.inl (by rw [a4 q]; decide))
      · exact Or.inr (Or.inr (by rw [b4 q]; decide))
      · exact Or.inr (by omega)
  · rw [a3, b3] at q
    have n1 : ¬ ms_np v f := fun z => q (Or.inr (Or.inl (by rw [a4 z]; decide)))
    have n2 : ¬ ms_np v x := fun z => q (Or.inr (Or.inr (by rw [b4 z]; decide)))
    have q9 : ¬ (10 ≤ a ∨ 10 ≤ b) := fun z => q (Or.inr z)
    obtain ⟨-, a6, a7, m, m1, m2, m3⟩ := a5 n1
    obtain ⟨-, b6, b7, m', m1', m2', m3'⟩ := b5 n2
    rw [a6, b6, (sm_max (by omega) (by omega)).1, m2, m2', m3, m3', sm_or]
    exact ⟨rfl, congrArg nI (by omega), ⟨_, sm_or_lt m1 m1', rfl⟩, ⟨_, by omega, rfl⟩, Or.inr (Or.inr (Or.inr ⟨Or.inr (Or.inl rfl), rfl, rfl, a7, b7, fun z => absurd z (by decide)⟩))⟩
theorem sm_choice {n : Nat} {u v : tm_SC} (hS : sm_S n u v) (c f x : Int32) :
    (¬ (cs_hb u c ∨ cs_hb u f ∨ cs_hb u x) → n < 100 → (ms_choU v n c f x).1 13 = 0 ∧ nI n = ms_mkR n (ms_hg v c f x) (1 + ms_gr (ms_hi v c) (ms_gr (ms_hi v f) (ms_hi v x))) ∧ sm_J (cs_add u n 5 c f x ((u.2.1 4 c.toNatClampNeg ||| u.2.1 4 f.toNatClampNeg) ||| u.2.1 4 x.toNatClampNeg) (cs_mx (u.2.1 5 c.toNatClampNeg + 1) (cs_mx (u.2.1 5 f.toNatClampNeg + 1) (u.2.1 5 x.toNatClampNeg + 1)))) (ms_choU v n c f x)) ∧
    ((cs_hb u c ∨ cs_hb u f ∨ cs_hb u x) → (ms_choU v n c f x).1 13 = 1 ∧ sm_J u (ms_choU v n c f x)) ∧ (¬ (cs_hb u c ∨ cs_hb u f ∨ cs_hb u x) → n = 100 → (ms_choU v n c f x).1 13 = 2 ∧ sm_J u (ms_choU v n c f x)) := by
  have hA := hS.1
  obtain ⟨d, d1, d2, d3, d4, d5⟩ := sm_ht hA c
  obtain ⟨a, a1, a2, a3, a4, a5⟩ := sm_ht hA f
  obtain ⟨b, b1, b2, b3, b4, b5⟩ := sm_ht hA x
  unfold ms_choU
  rw [a2, b2, d2, (sm_max (a := a) (b := b) (by omega) (by omega)).2, (sm_max (a := d) (b := max a b) (by omega) (by omega)).2, sm_1p]
  refine sm_mkS (bad := cs_hb u c ∨ cs_hb u f ∨ cs_hb u x) hS ?_ (fun q => ?_)
  · rw [a3, b3, d3, sm_10 (by omega)]
    unfold ms_hg
    rw [tm_ite0]
    refine ⟨fun q => Or.inr (by omega), fun q => ?_⟩
    rcases q with (q | q | q) | q
    · exact Or.inl (by rw [d4 q]; decide)
    · exact Or.inr (Or.inl (by rw [a4 q]; decide))
    · exact Or.inr (Or.inr (by rw [b4 q]; decide))
    · omega
  · rw [a3, b3, d3] at q
    have n0 : ¬ ms_np v c := fun z => q (Or.inl (by rw [d4 z]; decide))
    have n1 : ¬ ms_np v f := fun z => q (Or.inr (Or.inl (by rw [a4 z]; decide)))
    have n2 : ¬ ms_np v x := fun z => q (Or.inr (Or.inr (by rw [b4 z]; decide)))
    obtain ⟨-, d6, d7, k, k1, k2, k3⟩ := d5 n0
    obtain ⟨-, a6, a7, m, m1, m2, m3⟩ := a5 n1
    obtain ⟨-, b6, b7, m', m1', m2', m3'⟩ := b5 n2
    rw [a6, b6, d6, (sm_max (a := a + 1) (b := b + 1) (by omega) (by omega)).1, (sm_max (a := d + 1) (b := max (a + 1) (b + 1)) (by omega) (by omega)).1, k2, k3, m2, m2', m3, m3', sm_or, sm_or]
    exact ⟨rfl, congrArg nI (by omega), ⟨_, sm_or_lt (sm_or_lt k1 m1) m1', rfl⟩, ⟨_, by omega, rfl⟩, Or.inr (Or.inr (Or.inr ⟨Or.inr (Or.inr rfl), rfl, rfl, d7, a7, fun _ => b7⟩))⟩
theorem sm_any {m : Nat} (h : m < 256) (y : Int32) : ∃ x, x < 256 ∧ nI m &&& y = nI x := by
  have e : y = nI y.toBitVec.toNat := by
    apply Int32.toBitVec_inj.mp
    show y.toBitVec = BitVec.ofNat 32 y.toBitVec.toNat
    apply BitVec.eq_of_toNat_eq
    rw [BitVec.toNat_ofNat]
    exact (Nat.mod_eq_of_lt y.toBitVec.isLt).symm
  rw [e, sm_and]
  exact ⟨_, sm_and_lt h, rfl⟩
theorem sm_self (s : Int32) : (¬ s = -1 ∧ (s < 0 ∨ 8 ≤ s)) ↔ (s < -1 ∨ 8 ≤ s) := by
  rw [← Int32.toInt_inj, Int32.lt_iff_toInt_lt, Int32.lt_iff_toInt_lt, Int32.le_iff_toInt_le, show (8 : Int32).toInt = 8 by decide, show (-1 : Int32).toInt = -1 by decide, Int32.toInt_zero]
  omega
theorem sm_function {n : Nat} {u v : tm_SC} (hS : sm_S n u v) (s w b : Int32) :
    (¬ ((¬ s = -1 ∧ (s < 0 ∨ 8 ≤ s)) ∨ (w < 0 ∨ 8 ≤ w) ∨ cs_hb u b) → n < 100 → (ms_funU v n s w b).1 13 = 0 ∧ nI n = ms_mkR n (ms_fg v s w b) (1 + ms_hi v b) ∧ sm_J (cs_fun u n s w b) (ms_funU v n s w b)) ∧
    (((¬ s = -1 ∧ (s < 0 ∨ 8 ≤ s)) ∨ (w < 0 ∨ 8 ≤ w) ∨ cs_hb u b) → (ms_funU v n s w b).1 13 = 1 ∧ sm_J u (ms_funU v n s w b)) ∧ (¬ ((¬ s = -1 ∧ (s < 0 ∨ 8 ≤ s)) ∨ (w < 0 ∨ 8 ≤ w) ∨ cs_hb u b) → n = 100 → (ms_funU v n s w b).1 13 = 2 ∧ sm_J u (ms_funU v n s w b)) := by
  have hA := hS.1
  obtain ⟨a, a1, a2, a3, a4, a5⟩ := sm_ht hA b
  unfold ms_funU cs_fun
  rw [a2, sm_1p]
  refine sm_mkS (bad := (¬ s = -1 ∧ (s < 0 ∨ 8 ≤ s)) ∨ (w < 0 ∨ 8 ≤ w) ∨ cs_hb u b) hS ?_ (fun q => ?_)
  · rw [a3, sm_10 (by omega), sm_self]
    unfold ms_fg
    rw [tm_ite0, sm_vgi.1]
    refine ⟨fun q => ?_, fun q => ?_⟩
    · rcases q with (q | q) | q | q
      · exact Or.inl (Or.inl q)
      · exact Or.inl (Or.inr (Or.inl q))
      · exact Or.inl (Or.inr (Or.inr (Or.inl q)))
      · exact Or.inr (by omega)
    · rcases q with (q | q | q | q) | q
      · exact Or.inl (Or.inl q)
      · exact Or.inl (Or.inr q)
      · exact Or.inr (Or.inl q)
      · exact Or.inr (Or.inr (by rw [a4 q]; decide))
      · exact Or.inr (Or.inr (by omega))
  · rw [a3] at q
    have n1 : ¬ ms_np v b := fun z => q (Or.inr (Or.inr (by rw [a4 z]; decide)))
    have q9 : ¬ 10 ≤ a := fun z => q (Or.inr (Or.inr z))
    have qs : ¬ (s < -1 ∨ 8 ≤ s) := fun z => q (Or.inl ((sm_self s).mpr z))
    obtain ⟨g1, p, hp, ep⟩ := sm_vgi.2 (fun z => q (Or.inr (Or.inl z)))
    have eg : ms_fg v s w b = 1 := if_neg (fun z => by
      rcases z with z | z | z | z
      · exact qs (Or.inl z)
      · exact qs (Or.inr z)
      · rw [g1] at z; exact absurd z (by decide)
      · exact n1 z)
    obtain ⟨-, a6, a7, m, m1, m2, m3⟩ := a5 n1
    have ebd : (if s = -1 then (1 : Int32) <<< (w &&& 31) else (1 <<< (w &&& 31)) ||| (1 <<< (s &&& 31))) = ms_bd v s w b := by
      have hbd : ms_bd v s w b = (1 <<< (w &&& 31)) ||| (if 0 ≤ s then 1 <<< (s &&& 31) else 0) := if_neg (by rw [eg]; decide)
      rw [hbd]
      by_cases es : s = -1
      · rw [if_pos es, es, if_neg (by decide), Int32.or_zero]
      · have h0 : 0 ≤ s := by
          refine Int32.not_lt.mp (fun z => ?_)
          exact qs ((sm_self s).mp ⟨es, Or.inl z⟩)
        rw [if_neg es, if_pos h0]
    rw [m2, m3, ebd, a6]
    refine ⟨rfl, rfl, sm_any m1 _, ⟨_, by omega, rfl⟩, Or.inr (Or.inr (Or.inl ⟨rfl, rfl, rfl, by rw [ep]; exact vp_in_nI hp (by decide), a7, ?_⟩))⟩
    by_cases es : s = -1
    · exact Or.inl es
    · refine Or.inr ?_
      rw [vp_in_iff]
      have q1 : ¬ s < 0 := fun z => qs ((sm_self s).mp ⟨es, Or.inl z⟩)
      have q2 : ¬ 8 ≤ s := fun z => qs (Or.inr z)
      rw [Int32.le_iff_toInt_le, show (8 : Int32).toInt = 8 by decide] at q2
      rw [Int32.lt_iff_toInt_lt, Int32.toInt_zero] at q1
      omega
theorem sm_free {n : Nat} {u v : tm_SC} (hS : sm_S n u v) (e : Int32) :
    (¬ cs_np u e → (ms_freU v e).1 13 = 0 ∧ u.2.1 4 e.toNatClampNeg = ms_fr v e ∧ sm_J u (ms_freU v e)) ∧ (cs_np u e → (ms_freU v e).1 13 = 1 ∧ sm_J u (ms_freU v e)) := by
  unfold ms_freU
  refine ⟨fun q => ?_, fun q => ?_⟩
  · have n1 : ¬ ms_np v e := fun z => q ((sm_np hS.1 e).mpr z)
    obtain ⟨i, a, m, -, -, -, -, -, -, -, h8, h9⟩ := sm_pt hS.1 n1
    rw [if_neg n1]
    exact ⟨rfl, h8.trans ((if_neg n1).trans h9).symm, n, hS.s13 0⟩
  · rw [if_pos ((sm_np hS.1 e).mp q)]
    exact ⟨rfl, n, hS.s13 1⟩
theorem sm_begin {n : Nat} {u v : tm_SC} (hS : sm_S n u v) (e x : Int32) :
    (∀ u' m, ¬ (cs_np u e ∨ x < 1 ∨ 120 < x) → cs_MP (cs_beg u e.toNatClampNeg x) 0 (fun _ => False) u' → ms_MP (ms_bgn v e.toNatClampNeg x) 0 (fun _ => False) m → (tm_sf m 4 (m.1 5)).1 13 = 0 ∧ sm_J u' (tm_sf m 4 (m.1 5))) := by
  intro u' m hb hc hm
  have hA := hS.1
  have n1 : ¬ ms_np v e := fun z => hb (Or.inl ((sm_np hA e).mpr z))
  obtain ⟨i, a, k, hi, ei, eic, -⟩ := sm_pt hA n1
  have hx : ∃ cap, cap ≤ 120 ∧ x = nI cap := by
    have x1 : ¬ x < 1 := fun z => hb (Or.inr (Or.inl z))
    have x2 : ¬ 120 < x := fun z => hb (Or.inr (Or.inr z))
    have hv : vp_in x 121 := by
      rw [vp_in_iff]
      rw [Int32.lt_iff_toInt_lt, show (1 : Int32).toInt = 1 by decide] at x1
      rw [Int32.lt_iff_toInt_lt, show (120 : Int32).toInt = 120 by decide] at x2
      omega
    obtain ⟨j, j1, j2⟩ := vp_in_of hv (by decide)
    exact ⟨j, by omega, j2⟩
  obtain ⟨cap, hcap, ecap⟩ := hx
  rw [eic] at hc hm
  have hP : sm_P n (fun _ => False) (cs_beg u i x) (ms_bgn v i x) 0 := by
    refine ⟨⟨⟨rfl, rfl⟩, fun f hf => absurd hf (Nat.not_lt_zero _), fun c _ q => q.elim⟩, Or.inl ⟨rfl, rfl, ⟨i, hi, rfl, rfl⟩, 0, by decide, cs_beg_8 u i x, rfl, fun k _ q => ?_⟩⟩
    rw [Nat.zero_testBit] at q
    exact absurd q (by decide)
  have hL : cs_LL (cs_beg u i x) (fun _ => True) := hS.2.1.2.2.2.1.cp rfl rfl rfl
  obtain ⟨⟨sp, s1, s2, s3, s4, s5⟩, a1, a2, a3, a4, a5, a6, a7, a8⟩ := sm_meas hP.M (by decide) hL hc hm
  have hR := hP.re a8 a5 a6 a7
  have h0 : m.1 5 = 0 := by
    obtain ⟨⟨p, b1, b2⟩, -, -, b5⟩ := sm_measM hP.M.N hm
    rw [b1, tm_tot_0 120 (fun c hc => (b2 c hc).2.mp (Classical.byContradiction (fun q => (b5 c hc q).elim)))]
    have es : sm_s (ms_bgn v i x) 0 = sm_pc 0 := if_pos rfl
    rw [es]
    decide +kernel
  have hz : sp = 0 := (nI_eq (by omega) (by decide)).mp (s2.symm.trans h0)
  have q := a6.2
  have p := a5.2.2
  refine ⟨?_, n, ?_⟩
  · show m.1 13 = 0
    rw [q 13 (by decide) (by decide)]; rfl
  · refine ⟨hA.same (fun j hj => ?_) ?_ (fun j hj => ?_) ?_, ⟨?_, ?_, ?_, a4.im (fun _ _ _ => trivial), ?_, fun k => ?_⟩, fun _ => ⟨0, sp, cap, by decide, hR.sc rfl rfl (fun _ _ => rfl) (fun j h1 h2 => pk_un (by omega)), ⟨hcap, ?_, ?_⟩, ⟨s1, s2, by omega⟩, s5, a1, a2, a3⟩, fun z => ?_⟩
    · rw [a5.1 j (by omega) (by omega)]
      have h1 : ∀ j, j < 6 → (cs_beg u i x).2.1 j = u.2.1 j := fun j hj => by
        unfold cs_beg cs_ev cs_trim
        rw [sm_saa _ _ _ _ (by omega)]
        show (tm_sa _ 8 0 _).2.1 j = _
        rw [sm_saa _ _ _ _ (by omega)]; rfl
      exact h1 j hj
    · rw [p 11 (by decide) (by decide)]; rfl
    · show m.2.1 j = _
      rw [a6.1 j (by omega) (by omega)]
      unfold ms_bgn
      show (tm_sa _ 6 0 0).2.1 j = _
      rw [sm_saa _ _ _ _ (by omega)]; rfl
    · show m.1 0 = v.1 0
      rw [q 0 (by decide) (by decide)]; rfl
    · show u'.1 1 = m.1 1
      rw [p 1 (by decide) (by decide), q 1 (by decide) (by decide)]; rfl
    · show u'.1 3 = m.1 3
      rw [p 3 (by decide) (by decide), q 3 (by decide) (by decide)]; rfl
    · show u'.1 5 = m.1 5
      rw [p 5 (by decide) (by decide), h0]; rfl
    · rw [p 9 (by decide) (by decide)]; exact hS.2.1.2.2.2.2.1
    · show tm_b1 (m.2.1 8 k)
      rw [a6.1 8 (by decide) (by decide)]; exact hS.2.1.2.2.2.2.2 k
    · rw [p 2 (by decide) (by decide)]; exact ecap
    · show m.1 2 = _
      rw [q 2 (by decide) (by decide)]; exact ecap
    · rw [p 1 (by decide) (by decide)] at z
      exact absurd (show (1 : Int32) = 2 from z) (by decide)
theorem sm_about {n : Nat} {u v : tm_SC} (hS : sm_S n u v) (x : Int32) : cs_abt u x = ms_abt v x ∧ sm_J u (tm_sf v 13 0) := by
  refine ⟨?_, n, hS.s13 0⟩
  obtain ⟨y1, y3, y5, -⟩ := hS.2.1
  unfold cs_abt ms_abt
  rw [y1, y3, y5]
  by_cases q : v.1 1 = 1
  · obtain ⟨F, sp, cap, -, hP, -, ⟨g1, g2, -⟩, -, g4, -⟩ := hS.2.2.1 (y1.trans q)
    rw [g1, g2, g4, hP.1.1.1, hP.1.1.2]
  · simp only [if_neg q]
theorem sm_result {n : Nat} {u v : tm_SC} (hS : sm_S n u v) :
    (u.1 1 = 2 → (tm_sf v 13 (if v.1 1 = 2 then 0 else 1)).1 13 = 0 ∧ u.1 8 = (if v.1 1 = 2 then (if v.1 10 = 0 then v.1 9 else v.2.1 9 (v.1 9).toNatClampNeg) else 0) ∧ (if u.1 9 = 0 then (0 : Int32) else 1) = (if v.1 1 = 2 then (if v.1 10 = 0 then 0 else 1) else 0)) ∧
    (¬ u.1 1 = 2 → (tm_sf v 13 (if v.1 1 = 2 then 0 else 1)).1 13 = 1) ∧ sm_J u (tm_sf v 13 (if v.1 1 = 2 then 0 else 1)) ∧ (v.1 1 = 2 → ¬ v.1 10 = 0 → vp_in (v.1 9) 130) := by
  have y1 := hS.2.1.1
  refine ⟨fun q => ?_, fun q => ?_, ⟨n, hS.s13 _⟩, fun q => (hS.2.2.2 (y1.trans q)).2.2⟩
  · obtain ⟨e1, e2, -⟩ := hS.2.2.2 q
    rw [if_pos (y1.symm.trans q), if_pos (y1.symm.trans q), if_pos (y1.symm.trans q), e2, e1]
    exact ⟨rfl, rfl, rfl⟩
  · rw [if_neg (fun z => q (y1.trans z))]
    rfl
theorem sm_zero {u v : tm_SC} (hu : ∀ j, u.1 j = 0) (hu2 : ∀ j i, u.2.1 j i = 0) (hv : ∀ j, v.1 j = 0) (hv2 : ∀ j i, v.2.1 j i = 0) : sm_S 0 u v := by
  have hc : tm_cnt (u.2.1 10) 120 = 0 := tm_cnt_0 120 (fun c _ => hu2 10 c)
  refine ⟨⟨by decide, hu 11, hv 0, fun e he => absurd he (Nat.not_lt_zero _)⟩, ⟨(hu 1).trans (hv 1).symm, (hu 3).trans (hv 3).symm, (hu 5).trans (hv 4).symm, ⟨?_, fun j hj => ?_, fun c _ q => absurd (hu2 10 c) q⟩, Or.inl (hu 9), fun m => Or.inl (hv2 8 m)⟩, fun q => ?_, fun q => ?_⟩
  · rw [hc]; exact hu 10
  · rw [hc] at hj; exact absurd hj (Nat.not_lt_zero _)
  · rw [hu 1] at q; exact absurd q (by decide)
  · rw [hu 1] at q; exact absurd q (by decide)
